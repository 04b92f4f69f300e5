abbrev wd_X5_put (cI cZ cR : ClassId) (a_t a_t_text a_t_code a_t_waiting : Nat) (t_length t_codes t_waits t_fault t_faultPlace t_at t_place t_sign t_number t_state t_name t_compared t_open t_parentheses : Int32) (t_text_r : Nat → Int32) : va_W := [(a_t, oB 5 [.ref a_t_text, .ref a_t_code, .ref a_t_waiting, .int t_length, .int t_codes, .int t_waits, .int t_fault, .int t_faultPlace, .int t_at, .int t_place, .int t_sign, .int t_number, .int t_state, .int t_name, .int t_compared, .int t_open, .int t_parentheses]), (a_t_text, aI cI 400 t_text_r)]
def F_X5_put_3 (x1 : Int32) : Nat → Int32 → Int32 → (Nat → Int32) → Option (Int32 × (Nat → Int32))
  | 0, _, _, _ => none
  | n + 1, x2, t_length, t_text_r => (if x2 < 0 then (some (t_length, t_text_r)) else (if (400 : Int32) ≤ t_length then (some (t_length, t_text_r)) else (gin t_length 400 (F_X5_put_3 x1 n (x2 + (-8 : Int32)) (t_length + (1 : Int32)) (upd t_text_r (t_length).toNatClampNeg ((x1 >>> (x2 &&& 31)) &&& (255 : Int32)))))))
def F_X5_put (x1 : Int32) (t_length : Int32) (t_text_r : Nat → Int32) : Option (Int32 × (Nat → Int32)) := (F_X5_put_3 x1 FU (24 : Int32) t_length t_text_r)
set_option maxRecDepth 100000 in
theorem in_X5_put_X5 : ∀ w ∈ wsX50, w ∈ wsX5_put := by decide +kernel
set_option maxHeartbeats 4000000 in
set_option maxRecDepth 100000 in
theorem w_X5_put_3 {p : Program} {l : Launch} {e : Env} {s : State} {m : MethodId} {args : Array Value} {below : List Frame} {meth : Method} {c : Code} {D : va_G} {cI cZ cR : ClassId} {A : Nat → Prop} {a_t a_t_text a_t_code a_t_waiting : Nat} {t_codes : Int32} {t_waits : Int32} {t_fault : Int32} {t_faultPlace : Int32} {t_at : Int32} {t_place : Int32} {t_sign : Int32} {t_number : Int32} {t_state : Int32} {t_name : Int32} {t_compared : Int32} {t_open : Int32} {t_parentheses : Int32} {x1 : Int32} {out : Int32 × (Nat → Int32)} (X : cx p s m args meth c cX5_put 3 none RX5 wsX5_put) (hK : va_K D vwCl (ty3 cI cZ cR) s) (hA : ∀ q, s.heap.size ≤ q → A q) : ∀ (n : Nat) (x2 : Int32) (t_length : Int32) (t_text_r : Nat → Int32), F_X5_put_3 x1 n x2 t_length t_text_r = some out → ∀ (H : Heap) (locs : List Loc), va_P D vwCl (wd_X5_put cI cZ cR a_t a_t_text a_t_code a_t_waiting t_length t_codes t_waits t_fault t_faultPlace t_at t_place t_sign t_number t_state t_name t_compared t_open t_parentheses t_text_r) H → va_D A (wd_X5_put cI cZ cR a_t a_t_text a_t_code a_t_waiting t_length t_codes t_waits t_fault t_faultPlace t_at t_place t_sign t_number t_state t_name t_compared t_open t_parentheses t_text_r) → va_S A s.heap H locs → ∀ (ls : Array Slot), lv_has ls 3 [(0, .ref a_t), (1, .int x1), (2, .int x2)] → W p l e (headSpec wsX5_put ({ frames := 0, cells := 0, slots := 0, locals := 0 } : Room)).room s m args below meth c H locs 0 0 (MQ below (qv D cI cZ cR A (wd_X5_put cI cZ cR a_t a_t_text a_t_code a_t_waiting (out.1) t_codes t_waits t_fault t_faultPlace t_at t_place t_sign t_number t_state t_name t_compared t_open t_parentheses (out.2))) args s 0 0 A) (F0 m 3 ls []) := by
  obtain ⟨hx, hb, hml, hr, hown, hts, hlocks, hN⟩ := id X
  intro n
  induction n with
  | zero =>
    intro x2 t_length t_text_r hf
    cases (show (none : Option (Int32 × (Nat → Int32))) = some out from hf)
  | succ n ih =>
    intro x2 t_length t_text_r hf H locs hP hD hS ls hl
    rw [F_X5_put_3] at hf
    refine lv_iload_n hx hb dX5_put_3 rfl (lv_at hl 2 rfl) ?_
    refine lv_if_lt (tgt := 49) hx hb dX5_put_4 (by decide) (fun c1 => ?_) (fun c1 => ?_)
    · have hf := ipos c1 hf
      cases hf
      exact retv X hK hP hD hS dX5_put_49
    · have hf := ineg c1 hf
      refine lv_aload_n hx hb dX5_put_7 rfl (lv_at hl 0 rfl) ?_
      refine va_get (D := D) (ci := 5) (v := .int t_length) (C := RX5) (T := TX5) (N := 17) hx hb hts in_X5_put_X5 hown hK hP 0 rfl rfl 3 (by decide) (hts (.fieldLink RX5 25 "DivisionHall$Reader" "length" "I") (by decide +kernel)) (fun _ h9 => h9) rfl dX5_put_8 ?_
      refine lv_sipush (v := (400 : Int32)) hx hb dX5_put_11 (by decide) ?_
      refine lv_icmp_ge (tgt := 49) hx hb dX5_put_14 (by decide) (fun c2 => ?_) (fun c2 => ?_)
      · have hf := ipos c2 hf
        cases hf
        exact retv X hK hP hD hS dX5_put_49
      · have hf := ineg c2 hf
        refine lv_aload_n hx hb dX5_put_17 rfl (lv_at hl 0 rfl) ?_
        refine va_get (D := D) (ci := 5) (v := .ref a_t_text) (C := RX5) (T := TX5) (N := 17) hx hb hts in_X5_put_X5 hown hK hP 0 rfl rfl 0 (by decide) (hts (.fieldLink RX5 9 "DivisionHall$Reader" "text" "[I") (by decide +kernel)) (fun _ h9 => h9) rfl dX5_put_18 ?_
        refine lv_aload_n hx hb dX5_put_21 rfl (lv_at hl 0 rfl) ?_
        refine va_get (D := D) (ci := 5) (v := .int t_length) (C := RX5) (T := TX5) (N := 17) hx hb hts in_X5_put_X5 hown hK hP 0 rfl rfl 3 (by decide) (hts (.fieldLink RX5 25 "DivisionHall$Reader" "length" "I") (by decide +kernel)) (fun _ h9 => h9) rfl dX5_put_22 ?_
        refine lv_iload_n hx hb dX5_put_25 rfl (lv_at hl 1 rfl) ?_
        refine lv_iload_n hx hb dX5_put_26 rfl (lv_at hl 2 rfl) ?_
        refine lv_ishr hx hb dX5_put_27 ?_
        refine lv_sipush (v := (255 : Int32)) hx hb dX5_put_28 (by decide) ?_
        refine lv_iand hx hb dX5_put_31 ?_
        obtain ⟨hi3, hf⟩ := gin_s hf
        refine va_iast hx hb hK hP hD hS 1 0 rfl rfl hi3 dX5_put_32 (fun H locs hP hD hS => ?_)
        have hP : va_P D vwCl (wd_X5_put cI cZ cR a_t a_t_text a_t_code a_t_waiting t_length t_codes t_waits t_fault t_faultPlace t_at t_place t_sign t_number t_state t_name t_compared t_open t_parentheses (upd t_text_r (t_length).toNatClampNeg ((x1 >>> (x2 &&& 31)) &&& (255 : Int32)))) H := hP
        have hD : va_D A (wd_X5_put cI cZ cR a_t a_t_text a_t_code a_t_waiting t_length t_codes t_waits t_fault t_faultPlace t_at t_place t_sign t_number t_state t_name t_compared t_open t_parentheses (upd t_text_r (t_length).toNatClampNeg ((x1 >>> (x2 &&& 31)) &&& (255 : Int32)))) := hD
        refine lv_aload_n hx hb dX5_put_33 rfl (lv_at hl 0 rfl) ?_
        refine lv_dup hx hb dX5_put_34 rfl ?_
        refine va_get (D := D) (ci := 5) (v := .int t_length) (C := RX5) (T := TX5) (N := 17) hx hb hts in_X5_put_X5 hown hK hP 0 rfl rfl 3 (by decide) (hts (.fieldLink RX5 25 "DivisionHall$Reader" "length" "I") (by decide +kernel)) (fun _ h9 => h9) rfl dX5_put_35 ?_
        refine lv_iconst (v := (1 : Int32)) hx hb dX5_put_38 (by decide) ?_
        refine lv_iadd hx hb dX5_put_39 ?_
        refine va_put (D := D) (ci := 5) (v := .int (t_length + (1 : Int32))) (ty := .int) (C := RX5) (T := TX5) (N := 17) hx hb hts in_X5_put_X5 tyX5 tyX5_ok nmX5 hown hK hP hD hS 0 rfl rfl 3 (by decide) (hts (.fieldLink RX5 25 "DivisionHall$Reader" "length" "I") (by decide +kernel)) (fun _ h9 => h9) rfl (by decide +kernel) rfl rfl (Nat.le_of_ble_eq_true rfl) dX5_put_40 (fun H locs hP hD hS => ?_)
        have hP : va_P D vwCl (wd_X5_put cI cZ cR a_t a_t_text a_t_code a_t_waiting (t_length + (1 : Int32)) t_codes t_waits t_fault t_faultPlace t_at t_place t_sign t_number t_state t_name t_compared t_open t_parentheses (upd t_text_r (t_length).toNatClampNeg ((x1 >>> (x2 &&& 31)) &&& (255 : Int32)))) H := hP
        have hD : va_D A (wd_X5_put cI cZ cR a_t a_t_text a_t_code a_t_waiting (t_length + (1 : Int32)) t_codes t_waits t_fault t_faultPlace t_at t_place t_sign t_number t_state t_name t_compared t_open t_parentheses (upd t_text_r (t_length).toNatClampNeg ((x1 >>> (x2 &&& 31)) &&& (255 : Int32)))) := hD
        refine lv_iinc (v := (x2 + (-8 : Int32))) (lv' := [(2, .int (x2 + (-8 : Int32))), (0, .ref a_t), (1, .int x1)]) hx hb dX5_put_43 hl (k := 2) rfl rfl (by decide) rfl (fun ls hl => ?_)
        refine lv_goto (tgt := 3) hx hb dX5_put_46 (by decide) ?_
        exact ih (x2 + (-8 : Int32)) (t_length + (1 : Int32)) (upd t_text_r (t_length).toNatClampNeg ((x1 >>> (x2 &&& 31)) &&& (255 : Int32))) hf _ _ hP hD hS _ (lv_sub hl [1, 2, 0] rfl)
set_option maxHeartbeats 4000000 in
set_option maxRecDepth 100000 in
theorem c_X5_put (l : Launch) (D : va_G) (cI cZ cR : ClassId) {a_t a_t_text a_t_code a_t_waiting : Nat} {t_length : Int32} {t_codes : Int32} {t_waits : Int32} {t_fault : Int32} {t_faultPlace : Int32} {t_at : Int32} {t_place : Int32} {t_sign : Int32} {t_number : Int32} {t_state : Int32} {t_name : Int32} {t_compared : Int32} {t_open : Int32} {t_parentheses : Int32} {t_text_r : Nat → Int32} {x1 : Int32} {sz : Nat} {out : Int32 × (Nat → Int32)} (hf : F_X5_put x1 t_length t_text_r = some out) : CV l yX5_put wsX5_put ({ frames := 0, cells := 0, slots := 0, locals := 0 } : Room) D cI cZ cR [.ref a_t, .int x1] (wd_X5_put cI cZ cR a_t a_t_text a_t_code a_t_waiting t_length t_codes t_waits t_fault t_faultPlace t_at t_place t_sign t_number t_state t_name t_compared t_open t_parentheses t_text_r) sz (wd_X5_put cI cZ cR a_t a_t_text a_t_code a_t_waiting (out.1) t_codes t_waits t_fault t_faultPlace t_at t_place t_sign t_number t_state t_name t_compared t_open t_parentheses (out.2)) := by
  refine met_of (Qf := fun A => qv D cI cZ cR A (wd_X5_put cI cZ cR a_t a_t_text a_t_code a_t_waiting (out.1) t_codes t_waits t_fault t_faultPlace t_at t_place t_sign t_number t_state t_name t_compared t_open t_parentheses (out.2))) RX5 (by decide +kernel) rfl rfl (Nat.le_of_ble_eq_true rfl) ?_
  intro p e s m below meth c A X hK hA hP hD hS ls hl
  have hl : lv_has ls 3 [(0, .ref a_t), (1, .int x1)] := hl
  obtain ⟨hx, hb, hml, hr, hown, hts, hlocks, hN⟩ := id X
  unfold F_X5_put at hf
  refine lv_bipush (v := (24 : Int32)) hx hb dX5_put_0 (by decide) ?_
  refine lv_istore_n (lv' := [(2, .int (24 : Int32)), (0, .ref a_t), (1, .int x1)]) hx hb dX5_put_2 rfl hl (by decide) rfl (fun ls hl => ?_)
  exact w_X5_put_3 X hK hA _ (24 : Int32) t_length t_text_r hf _ _ hP hD hS _ (lv_sub hl [1, 2, 0] rfl)

abbrev wd_X5_isDigit (cI cZ cR : ClassId) : va_W := []
def F_X5_isDigit (x0 : Int32) : Option (Int32) := (if x0 < (48 : Int32) then (some (0 : Int32)) else (if (57 : Int32) < x0 then (some (0 : Int32)) else (some (1 : Int32))))
set_option maxHeartbeats 4000000 in
set_option maxRecDepth 100000 in
theorem c_X5_isDigit (l : Launch) (D : va_G) (cI cZ cR : ClassId) {x0 : Int32} {sz : Nat} {out : Int32} (hf : F_X5_isDigit x0 = some out) : CI l yX5_isDigit wsX5_isDigit ({ frames := 0, cells := 0, slots := 0, locals := 0 } : Room) D cI cZ cR [.int x0] (wd_X5_isDigit cI cZ cR) sz (out) (wd_X5_isDigit cI cZ cR) := by
  refine met_of (Qf := fun A => qi D cI cZ cR A (out) (wd_X5_isDigit cI cZ cR)) RX5 (by decide +kernel) rfl rfl (Nat.le_of_ble_eq_true rfl) ?_
  intro p e s m below meth c A X hK hA hP hD hS ls hl
  have hl : lv_has ls 1 [(0, .int x0)] := hl
  obtain ⟨hx, hb, hml, hr, hown, hts, hlocks, hN⟩ := id X
  unfold F_X5_isDigit at hf
  refine lv_iload_n hx hb dX5_isDigit_0 rfl (lv_at hl 0 rfl) ?_
  refine lv_bipush (v := (48 : Int32)) hx hb dX5_isDigit_1 (by decide) ?_
  refine lv_icmp_lt (tgt := 16) hx hb dX5_isDigit_3 (by decide) (fun c1 => ?_) (fun c1 => ?_)
  · have hf := ipos c1 hf
    refine lv_iconst (v := (0 : Int32)) hx hb dX5_isDigit_16 (by decide) ?_
    cases hf
    exact retz (Or.inl rfl) X hK hP hD hS dX5_isDigit_17
  · have hf := ineg c1 hf
    refine lv_iload_n hx hb dX5_isDigit_6 rfl (lv_at hl 0 rfl) ?_
    refine lv_bipush (v := (57 : Int32)) hx hb dX5_isDigit_7 (by decide) ?_
    refine lv_icmp_gt (tgt := 16) hx hb dX5_isDigit_9 (by decide) (fun c2 => ?_) (fun c2 => ?_)
    · have hf := ipos c2 hf
      refine lv_iconst (v := (0 : Int32)) hx hb dX5_isDigit_16 (by decide) ?_
      cases hf
      exact retz (Or.inl rfl) X hK hP hD hS dX5_isDigit_17
    · have hf := ineg c2 hf
      refine lv_iconst (v := (1 : Int32)) hx hb dX5_isDigit_12 (by decide) ?_
      refine lv_goto (tgt := 17) hx hb dX5_isDigit_13 (by decide) ?_
      cases hf
      exact retz (Or.inr rfl) X hK hP hD hS dX5_isDigit_17

abbrev wd_X5_readNumber (cI cZ cR : ClassId) (a_t a_t_text a_t_code a_t_waiting : Nat) (t_length t_codes t_waits t_fault t_faultPlace t_at t_place t_sign t_number t_state t_name t_compared t_open t_parentheses : Int32) (t_text_r : Nat → Int32) : va_W := [(a_t, oB 5 [.ref a_t_text, .ref a_t_code, .ref a_t_waiting, .int t_length, .int t_codes, .int t_waits, .int t_fault, .int t_faultPlace, .int t_at, .int t_place, .int t_sign, .int t_number, .int t_state, .int t_name, .int t_compared, .int t_open, .int t_parentheses]), (a_t_text, aI cI 400 t_text_r)]
def F_X5_readNumber_78 (t_length : Int32) (t_place : Int32) (t_text_r : Nat → Int32) (t_at : Int32) (t_number : Int32) (t_sign : Int32) : Option (Int32 × Int32 × Int32) := (if (4 : Int32) < (t_at - t_place) then (some (t_at, t_number, (1 : Int32))) else (some (t_at, t_number, (6 : Int32))))
def F_X5_readNumber_5 (t_length : Int32) (t_place : Int32) (t_text_r : Nat → Int32) : Nat → Int32 → Int32 → Int32 → Option (Int32 × Int32 × Int32)
  | 0, _, _, _ => none
  | n + 1, t_at, t_number, t_sign => (if t_length ≤ t_at then (F_X5_readNumber_78 t_length t_place t_text_r t_at t_number t_sign) else (if (400 : Int32) ≤ t_at then (F_X5_readNumber_78 t_length t_place t_text_r t_at t_number t_sign) else (gin t_at 400 ((F_X5_isDigit (t_text_r (t_at).toNatClampNeg)).bind (fun r4 => (if r4 = 0 then (F_X5_readNumber_78 t_length t_place t_text_r t_at t_number t_sign) else (gin t_at 400 (F_X5_readNumber_5 t_length t_place t_text_r n (t_at + (1 : Int32)) (((t_number * (10 : Int32)) + (t_text_r (t_at).toNatClampNeg)) - (48 : Int32)) t_sign))))))))
def F_X5_readNumber (t_at : Int32) (t_length : Int32) (t_number : Int32) (t_place : Int32) (t_sign : Int32) (t_text_r : Nat → Int32) : Option (Int32 × Int32 × Int32) := (F_X5_readNumber_5 t_length t_place t_text_r FU t_at (0 : Int32) t_sign)
set_option maxRecDepth 100000 in
theorem in_X5_readNumber_X5 : ∀ w ∈ wsX50, w ∈ wsX5_readNumber := by decide +kernel
set_option maxHeartbeats 4000000 in
set_option maxRecDepth 100000 in
theorem w_X5_readNumber_78 {p : Program} {l : Launch} {e : Env} {s : State} {m : MethodId} {args : Array Value} {below : List Frame} {meth : Method} {c : Code} {D : va_G} {cI cZ cR : ClassId} {A : Nat → Prop} {a_t a_t_text a_t_code a_t_waiting : Nat} {t_length : Int32} {t_codes : Int32} {t_waits : Int32} {t_fault : Int32} {t_faultPlace : Int32} {t_place : Int32} {t_state : Int32} {t_name : Int32} {t_compared : Int32} {t_open : Int32} {t_parentheses : Int32} {t_text_r : Nat → Int32} {out : Int32 × Int32 × Int32} (X : cx p s m args meth c cX5_readNumber 1 none RX5 wsX5_readNumber) (hK : va_K D vwCl (ty3 cI cZ cR) s) (hA : ∀ q, s.heap.size ≤ q → A q) : ∀ (t_at : Int32) (t_number : Int32) (t_sign : Int32), F_X5_readNumber_78 t_length t_place t_text_r t_at t_number t_sign = some out → ∀ (H : Heap) (locs : List Loc), va_P D vwCl (wd_X5_readNumber cI cZ cR a_t a_t_text a_t_code a_t_waiting t_length t_codes t_waits t_fault t_faultPlace t_at t_place t_sign t_number t_state t_name t_compared t_open t_parentheses t_text_r) H → va_D A (wd_X5_readNumber cI cZ cR a_t a_t_text a_t_code a_t_waiting t_length t_codes t_waits t_fault t_faultPlace t_at t_place t_sign t_number t_state t_name t_compared t_open t_parentheses t_text_r) → va_S A s.heap H locs → ∀ (ls : Array Slot), lv_has ls 1 [(0, .ref a_t)] → W p l e (headSpec wsX5_readNumber ({ frames := 1, cells := 0, slots := 0, locals := 20 } : Room)).room s m args below meth c H locs 0 0 (MQ below (qv D cI cZ cR A (wd_X5_readNumber cI cZ cR a_t a_t_text a_t_code a_t_waiting t_length t_codes t_waits t_fault t_faultPlace (out.1) t_place (out.2.2) (out.2.1) t_state t_name t_compared t_open t_parentheses t_text_r)) args s 0 0 A) (F0 m 78 ls []) := by
  obtain ⟨hx, hb, hml, hr, hown, hts, hlocks, hN⟩ := id X
  intro t_at t_number t_sign hf H locs hP hD hS ls hl
  unfold F_X5_readNumber_78 at hf
  refine lv_aload_n hx hb dX5_readNumber_78 rfl (lv_at hl 0 rfl) ?_
  refine lv_aload_n hx hb dX5_readNumber_79 rfl (lv_at hl 0 rfl) ?_
  refine va_get (D := D) (ci := 5) (v := .int t_at) (C := RX5) (T := TX5) (N := 17) hx hb hts in_X5_readNumber_X5 hown hK hP 0 rfl rfl 8 (by decide) (hts (.fieldLink RX5 37 "DivisionHall$Reader" "at" "I") (by decide +kernel)) (fun _ h9 => h9) rfl dX5_readNumber_80 ?_
  refine lv_aload_n hx hb dX5_readNumber_83 rfl (lv_at hl 0 rfl) ?_
  refine va_get (D := D) (ci := 5) (v := .int t_place) (C := RX5) (T := TX5) (N := 17) hx hb hts in_X5_readNumber_X5 hown hK hP 0 rfl rfl 9 (by decide) (hts (.fieldLink RX5 59 "DivisionHall$Reader" "place" "I") (by decide +kernel)) (fun _ h9 => h9) rfl dX5_readNumber_84 ?_
  refine lv_isub hx hb dX5_readNumber_87 ?_
  refine lv_iconst (v := (4 : Int32)) hx hb dX5_readNumber_88 (by decide) ?_
  refine lv_icmp_gt (tgt := 97) hx hb dX5_readNumber_89 (by decide) (fun c8 => ?_) (fun c8 => ?_)
  · have hf := ipos c8 hf
    refine lv_iconst (v := (1 : Int32)) hx hb dX5_readNumber_97 (by decide) ?_
    refine va_put (D := D) (ci := 5) (v := .int (1 : Int32)) (ty := .int) (C := RX5) (T := TX5) (N := 17) hx hb hts in_X5_readNumber_X5 tyX5 tyX5_ok nmX5 hown hK hP hD hS 0 rfl rfl 10 (by decide) (hts (.fieldLink RX5 64 "DivisionHall$Reader" "sign" "I") (by decide +kernel)) (fun _ h9 => h9) rfl (by decide +kernel) rfl rfl (Nat.le_of_ble_eq_true rfl) dX5_readNumber_98 (fun H locs hP hD hS => ?_)
    have hP : va_P D vwCl (wd_X5_readNumber cI cZ cR a_t a_t_text a_t_code a_t_waiting t_length t_codes t_waits t_fault t_faultPlace t_at t_place (1 : Int32) t_number t_state t_name t_compared t_open t_parentheses t_text_r) H := hP
    have hD : va_D A (wd_X5_readNumber cI cZ cR a_t a_t_text a_t_code a_t_waiting t_length t_codes t_waits t_fault t_faultPlace t_at t_place (1 : Int32) t_number t_state t_name t_compared t_open t_parentheses t_text_r) := hD
    cases hf
    exact retv X hK hP hD hS dX5_readNumber_101
  · have hf := ineg c8 hf
    refine lv_bipush (v := (6 : Int32)) hx hb dX5_readNumber_92 (by decide) ?_
    refine lv_goto (tgt := 98) hx hb dX5_readNumber_94 (by decide) ?_
    refine va_put (D := D) (ci := 5) (v := .int (6 : Int32)) (ty := .int) (C := RX5) (T := TX5) (N := 17) hx hb hts in_X5_readNumber_X5 tyX5 tyX5_ok nmX5 hown hK hP hD hS 0 rfl rfl 10 (by decide) (hts (.fieldLink RX5 64 "DivisionHall$Reader" "sign" "I") (by decide +kernel)) (fun _ h9 => h9) rfl (by decide +kernel) rfl rfl (Nat.le_of_ble_eq_true rfl) dX5_readNumber_98 (fun H locs hP hD hS => ?_)
    have hP : va_P D vwCl (wd_X5_readNumber cI cZ cR a_t a_t_text a_t_code a_t_waiting t_length t_codes t_waits t_fault t_faultPlace t_at t_place (6 : Int32) t_number t_state t_name t_compared t_open t_parentheses t_text_r) H := hP
    have hD : va_D A (wd_X5_readNumber cI cZ cR a_t a_t_text a_t_code a_t_waiting t_length t_codes t_waits t_fault t_faultPlace t_at t_place (6 : Int32) t_number t_state t_name t_compared t_open t_parentheses t_text_r) := hD
    cases hf
    exact retv X hK hP hD hS dX5_readNumber_101
set_option maxHeartbeats 4000000 in
set_option maxRecDepth 100000 in
theorem w_X5_readNumber_5 {p : Program} {l : Launch} {e : Env} {s : State} {m : MethodId} {args : Array Value} {below : List Frame} {meth : Method} {c : Code} {D : va_G} {cI cZ cR : ClassId} {A : Nat → Prop} {a_t a_t_text a_t_code a_t_waiting : Nat} {t_length : Int32} {t_codes : Int32} {t_waits : Int32} {t_fault : Int32} {t_faultPlace : Int32} {t_place : Int32} {t_state : Int32} {t_name : Int32} {t_compared : Int32} {t_open : Int32} {t_parentheses : Int32} {t_text_r : Nat → Int32} {out : Int32 × Int32 × Int32} (X : cx p s m args meth c cX5_readNumber 1 none RX5 wsX5_readNumber) (hK : va_K D vwCl (ty3 cI cZ cR) s) (hA : ∀ q, s.heap.size ≤ q → A q) : ∀ (n : Nat) (t_at : Int32) (t_number : Int32) (t_sign : Int32), F_X5_readNumber_5 t_length t_place t_text_r n t_at t_number t_sign = some out → ∀ (H : Heap) (locs : List Loc), va_P D vwCl (wd_X5_readNumber cI cZ cR a_t a_t_text a_t_code a_t_waiting t_length t_codes t_waits t_fault t_faultPlace t_at t_place t_sign t_number t_state t_name t_compared t_open t_parentheses t_text_r) H → va_D A (wd_X5_readNumber cI cZ cR a_t a_t_text a_t_code a_t_waiting t_length t_codes t_waits t_fault t_faultPlace t_at t_place t_sign t_number t_state t_name t_compared t_open t_parentheses t_text_r) → va_S A s.heap H locs → ∀ (ls : Array Slot), lv_has ls 1 [(0, .ref a_t)] → W p l e (headSpec wsX5_readNumber ({ frames := 1, cells := 0, slots := 0, locals := 20 } : Room)).room s m args below meth c H locs 0 0 (MQ below (qv D cI cZ cR A (wd_X5_readNumber cI cZ cR a_t a_t_text a_t_code a_t_waiting t_length t_codes t_waits t_fault t_faultPlace (out.1) t_place (out.2.2) (out.2.1) t_state t_name t_compared t_open t_parentheses t_text_r)) args s 0 0 A) (F0 m 5 ls []) := by
  obtain ⟨hx, hb, hml, hr, hown, hts, hlocks, hN⟩ := id X
  intro n
  induction n with
  | zero =>
    intro t_at t_number t_sign hf
    cases (show (none : Option (Int32 × Int32 × Int32)) = some out from hf)
  | succ n ih =>
    intro t_at t_number t_sign hf H locs hP hD hS ls hl
    rw [F_X5_readNumber_5] at hf
    refine lv_aload_n hx hb dX5_readNumber_5 rfl (lv_at hl 0 rfl) ?_
    refine va_get (D := D) (ci := 5) (v := .int t_at) (C := RX5) (T := TX5) (N := 17) hx hb hts in_X5_readNumber_X5 hown hK hP 0 rfl rfl 8 (by decide) (hts (.fieldLink RX5 37 "DivisionHall$Reader" "at" "I") (by decide +kernel)) (fun _ h9 => h9) rfl dX5_readNumber_6 ?_
    refine lv_aload_n hx hb dX5_readNumber_9 rfl (lv_at hl 0 rfl) ?_
    refine va_get (D := D) (ci := 5) (v := .int t_length) (C := RX5) (T := TX5) (N := 17) hx hb hts in_X5_readNumber_X5 hown hK hP 0 rfl rfl 3 (by decide) (hts (.fieldLink RX5 25 "DivisionHall$Reader" "length" "I") (by decide +kernel)) (fun _ h9 => h9) rfl dX5_readNumber_10 ?_
    refine lv_icmp_ge (tgt := 78) hx hb dX5_readNumber_13 (by decide) (fun c1 => ?_) (fun c1 => ?_)
    · have hf := ipos c1 hf
      exact w_X5_readNumber_78 X hK hA t_at t_number t_sign hf _ _ hP hD hS _ (lv_sub hl [0] rfl)
    · have hf := ineg c1 hf
      refine lv_aload_n hx hb dX5_readNumber_16 rfl (lv_at hl 0 rfl) ?_
      refine va_get (D := D) (ci := 5) (v := .int t_at) (C := RX5) (T := TX5) (N := 17) hx hb hts in_X5_readNumber_X5 hown hK hP 0 rfl rfl 8 (by decide) (hts (.fieldLink RX5 37 "DivisionHall$Reader" "at" "I") (by decide +kernel)) (fun _ h9 => h9) rfl dX5_readNumber_17 ?_
      refine lv_sipush (v := (400 : Int32)) hx hb dX5_readNumber_20 (by decide) ?_
      refine lv_icmp_ge (tgt := 78) hx hb dX5_readNumber_23 (by decide) (fun c2 => ?_) (fun c2 => ?_)
      · have hf := ipos c2 hf
        exact w_X5_readNumber_78 X hK hA t_at t_number t_sign hf _ _ hP hD hS _ (lv_sub hl [0] rfl)
      · have hf := ineg c2 hf
        refine lv_aload_n hx hb dX5_readNumber_26 rfl (lv_at hl 0 rfl) ?_
        refine va_get (D := D) (ci := 5) (v := .ref a_t_text) (C := RX5) (T := TX5) (N := 17) hx hb hts in_X5_readNumber_X5 hown hK hP 0 rfl rfl 0 (by decide) (hts (.fieldLink RX5 9 "DivisionHall$Reader" "text" "[I") (by decide +kernel)) (fun _ h9 => h9) rfl dX5_readNumber_27 ?_
        refine lv_aload_n hx hb dX5_readNumber_30 rfl (lv_at hl 0 rfl) ?_
        refine va_get (D := D) (ci := 5) (v := .int t_at) (C := RX5) (T := TX5) (N := 17) hx hb hts in_X5_readNumber_X5 hown hK hP 0 rfl rfl 8 (by decide) (hts (.fieldLink RX5 37 "DivisionHall$Reader" "at" "I") (by decide +kernel)) (fun _ h9 => h9) rfl dX5_readNumber_31 ?_
        obtain ⟨hi3, hf⟩ := gin_s hf
        refine va_iald hx hb hK hP 1 0 rfl rfl hi3 dX5_readNumber_34 ?_
        obtain ⟨r4, hr5, hf⟩ := bnd hf
        refine wcalli (D := D) (cI := cI) (cZ := cZ) (cR := cR) (wc := (wd_X5_isDigit cI cZ cR)) (w' := (wd_X5_isDigit cI cZ cR)) [] hP hD hS hA rfl rfl rfl (rnS (As := [.int (t_text_r (t_at).toNatClampNeg)]) X [] hK hP hD rfl rfl (c_X5_isDigit l D cI cZ cR hr5) (cwS 1 hts gX5_readNumber_X5_isDigit rfl rfl rfl (by decide +kernel) ⟨Nat.le_of_ble_eq_true rfl, Nat.le_of_ble_eq_true rfl⟩) rfl hl.1 rfl (Nat.le_of_ble_eq_true rfl) dX5_readNumber_35) (fun H locs hP hD hS => ?_)
        have hP : va_P D vwCl (wd_X5_readNumber cI cZ cR a_t a_t_text a_t_code a_t_waiting t_length t_codes t_waits t_fault t_faultPlace t_at t_place t_sign t_number t_state t_name t_compared t_open t_parentheses t_text_r) H := hP
        have hD : va_D A (wd_X5_readNumber cI cZ cR a_t a_t_text a_t_code a_t_waiting t_length t_codes t_waits t_fault t_faultPlace t_at t_place t_sign t_number t_state t_name t_compared t_open t_parentheses t_text_r) := hD
        refine lv_if_eq (tgt := 78) hx hb dX5_readNumber_38 (by decide) (fun c6 => ?_) (fun c6 => ?_)
        · have hf := ipos c6 hf
          exact w_X5_readNumber_78 X hK hA t_at t_number t_sign hf _ _ hP hD hS _ (lv_sub hl [0] rfl)
        · have hf := ineg c6 hf
          refine lv_aload_n hx hb dX5_readNumber_41 rfl (lv_at hl 0 rfl) ?_
          refine lv_aload_n hx hb dX5_readNumber_42 rfl (lv_at hl 0 rfl) ?_
          refine va_get (D := D) (ci := 5) (v := .int t_number) (C := RX5) (T := TX5) (N := 17) hx hb hts in_X5_readNumber_X5 hown hK hP 0 rfl rfl 11 (by decide) (hts (.fieldLink RX5 115 "DivisionHall$Reader" "number" "I") (by decide +kernel)) (fun _ h9 => h9) rfl dX5_readNumber_43 ?_
          refine lv_bipush (v := (10 : Int32)) hx hb dX5_readNumber_46 (by decide) ?_
          refine lv_imul hx hb dX5_readNumber_48 ?_
          refine lv_aload_n hx hb dX5_readNumber_49 rfl (lv_at hl 0 rfl) ?_
          refine va_get (D := D) (ci := 5) (v := .ref a_t_text) (C := RX5) (T := TX5) (N := 17) hx hb hts in_X5_readNumber_X5 hown hK hP 0 rfl rfl 0 (by decide) (hts (.fieldLink RX5 9 "DivisionHall$Reader" "text" "[I") (by decide +kernel)) (fun _ h9 => h9) rfl dX5_readNumber_50 ?_
          refine lv_aload_n hx hb dX5_readNumber_53 rfl (lv_at hl 0 rfl) ?_
          refine va_get (D := D) (ci := 5) (v := .int t_at) (C := RX5) (T := TX5) (N := 17) hx hb hts in_X5_readNumber_X5 hown hK hP 0 rfl rfl 8 (by decide) (hts (.fieldLink RX5 37 "DivisionHall$Reader" "at" "I") (by decide +kernel)) (fun _ h9 => h9) rfl dX5_readNumber_54 ?_
          obtain ⟨hi7, hf⟩ := gin_s hf
          refine va_iald hx hb hK hP 1 0 rfl rfl hi7 dX5_readNumber_57 ?_
          refine lv_iadd hx hb dX5_readNumber_58 ?_
          refine lv_bipush (v := (48 : Int32)) hx hb dX5_readNumber_59 (by decide) ?_
          refine lv_isub hx hb dX5_readNumber_61 ?_
          refine va_put (D := D) (ci := 5) (v := .int (((t_number * (10 : Int32)) + (t_text_r (t_at).toNatClampNeg)) - (48 : Int32))) (ty := .int) (C := RX5) (T := TX5) (N := 17) hx hb hts in_X5_readNumber_X5 tyX5 tyX5_ok nmX5 hown hK hP hD hS 0 rfl rfl 11 (by decide) (hts (.fieldLink RX5 115 "DivisionHall$Reader" "number" "I") (by decide +kernel)) (fun _ h9 => h9) rfl (by decide +kernel) rfl rfl (Nat.le_of_ble_eq_true rfl) dX5_readNumber_62 (fun H locs hP hD hS => ?_)
          have hP : va_P D vwCl (wd_X5_readNumber cI cZ cR a_t a_t_text a_t_code a_t_waiting t_length t_codes t_waits t_fault t_faultPlace t_at t_place t_sign (((t_number * (10 : Int32)) + (t_text_r (t_at).toNatClampNeg)) - (48 : Int32)) t_state t_name t_compared t_open t_parentheses t_text_r) H := hP
          have hD : va_D A (wd_X5_readNumber cI cZ cR a_t a_t_text a_t_code a_t_waiting t_length t_codes t_waits t_fault t_faultPlace t_at t_place t_sign (((t_number * (10 : Int32)) + (t_text_r (t_at).toNatClampNeg)) - (48 : Int32)) t_state t_name t_compared t_open t_parentheses t_text_r) := hD
          refine lv_aload_n hx hb dX5_readNumber_65 rfl (lv_at hl 0 rfl) ?_
          refine lv_dup hx hb dX5_readNumber_66 rfl ?_
          refine va_get (D := D) (ci := 5) (v := .int t_at) (C := RX5) (T := TX5) (N := 17) hx hb hts in_X5_readNumber_X5 hown hK hP 0 rfl rfl 8 (by decide) (hts (.fieldLink RX5 37 "DivisionHall$Reader" "at" "I") (by decide +kernel)) (fun _ h9 => h9) rfl dX5_readNumber_67 ?_
          refine lv_iconst (v := (1 : Int32)) hx hb dX5_readNumber_70 (by decide) ?_
          refine lv_iadd hx hb dX5_readNumber_71 ?_
          refine va_put (D := D) (ci := 5) (v := .int (t_at + (1 : Int32))) (ty := .int) (C := RX5) (T := TX5) (N := 17) hx hb hts in_X5_readNumber_X5 tyX5 tyX5_ok nmX5 hown hK hP hD hS 0 rfl rfl 8 (by decide) (hts (.fieldLink RX5 37 "DivisionHall$Reader" "at" "I") (by decide +kernel)) (fun _ h9 => h9) rfl (by decide +kernel) rfl rfl (Nat.le_of_ble_eq_true rfl) dX5_readNumber_72 (fun H locs hP hD hS => ?_)
          have hP : va_P D vwCl (wd_X5_readNumber cI cZ cR a_t a_t_text a_t_code a_t_waiting t_length t_codes t_waits t_fault t_faultPlace (t_at + (1 : Int32)) t_place t_sign (((t_number * (10 : Int32)) + (t_text_r (t_at).toNatClampNeg)) - (48 : Int32)) t_state t_name t_compared t_open t_parentheses t_text_r) H := hP
          have hD : va_D A (wd_X5_readNumber cI cZ cR a_t a_t_text a_t_code a_t_waiting t_length t_codes t_waits t_fault t_faultPlace (t_at + (1 : Int32)) t_place t_sign (((t_number * (10 : Int32)) + (t_text_r (t_at).toNatClampNeg)) - (48 : Int32)) t_state t_name t_compared t_open t_parentheses t_text_r) := hD
          refine lv_goto (tgt := 5) hx hb dX5_readNumber_75 (by decide) ?_
          exact ih (t_at + (1 : Int32)) (((t_number * (10 : Int32)) + (t_text_r (t_at).toNatClampNeg)) - (48 : Int32)) t_sign hf _ _ hP hD hS _ (lv_sub hl [0] rfl)
set_option maxHeartbeats 4000000 in
set_option maxRecDepth 100000 in
theorem c_X5_readNumber (l : Launch) (D : va_G) (cI cZ cR : ClassId) {a_t a_t_text a_t_code a_t_waiting : Nat} {t_length : Int32} {t_codes : Int32} {t_waits : Int32} {t_fault : Int32} {t_faultPlace : Int32} {t_at : Int32} {t_place : Int32} {t_sign : Int32} {t_number : Int32} {t_state : Int32} {t_name : Int32} {t_compared : Int32} {t_open : Int32} {t_parentheses : Int32} {t_text_r : Nat → Int32} {sz : Nat} {out : Int32 × Int32 × Int32} (hf : F_X5_readNumber t_at t_length t_number t_place t_sign t_text_r = some out) : CV l yX5_readNumber wsX5_readNumber ({ frames := 1, cells := 0, slots := 0, locals := 20 } : Room) D cI cZ cR [.ref a_t] (wd_X5_readNumber cI cZ cR a_t a_t_text a_t_code a_t_waiting t_length t_codes t_waits t_fault t_faultPlace t_at t_place t_sign t_number t_state t_name t_compared t_open t_parentheses t_text_r) sz (wd_X5_readNumber cI cZ cR a_t a_t_text a_t_code a_t_waiting t_length t_codes t_waits t_fault t_faultPlace (out.1) t_place (out.2.2) (out.2.1) t_state t_name t_compared t_open t_parentheses t_text_r) := by
  refine met_of (Qf := fun A => qv D cI cZ cR A (wd_X5_readNumber cI cZ cR a_t a_t_text a_t_code a_t_waiting t_length t_codes t_waits t_fault t_faultPlace (out.1) t_place (out.2.2) (out.2.1) t_state t_name t_compared t_open t_parentheses t_text_r)) RX5 (by decide +kernel) rfl rfl (Nat.le_of_ble_eq_true rfl) ?_
  intro p e s m below meth c A X hK hA hP hD hS ls hl
  have hl : lv_has ls 1 [(0, .ref a_t)] := hl
  obtain ⟨hx, hb, hml, hr, hown, hts, hlocks, hN⟩ := id X
  unfold F_X5_readNumber at hf
  refine lv_aload_n hx hb dX5_readNumber_0 rfl (lv_at hl 0 rfl) ?_
  refine lv_iconst (v := (0 : Int32)) hx hb dX5_readNumber_1 (by decide) ?_
  refine va_put (D := D) (ci := 5) (v := .int (0 : Int32)) (ty := .int) (C := RX5) (T := TX5) (N := 17) hx hb hts in_X5_readNumber_X5 tyX5 tyX5_ok nmX5 hown hK hP hD hS 0 rfl rfl 11 (by decide) (hts (.fieldLink RX5 115 "DivisionHall$Reader" "number" "I") (by decide +kernel)) (fun _ h9 => h9) rfl (by decide +kernel) rfl rfl (Nat.le_of_ble_eq_true rfl) dX5_readNumber_2 (fun H locs hP hD hS => ?_)
  have hP : va_P D vwCl (wd_X5_readNumber cI cZ cR a_t a_t_text a_t_code a_t_waiting t_length t_codes t_waits t_fault t_faultPlace t_at t_place t_sign (0 : Int32) t_state t_name t_compared t_open t_parentheses t_text_r) H := hP
  have hD : va_D A (wd_X5_readNumber cI cZ cR a_t a_t_text a_t_code a_t_waiting t_length t_codes t_waits t_fault t_faultPlace t_at t_place t_sign (0 : Int32) t_state t_name t_compared t_open t_parentheses t_text_r) := hD
  exact w_X5_readNumber_5 X hK hA _ t_at (0 : Int32) t_sign hf _ _ hP hD hS _ (lv_sub hl [0] rfl)

abbrev wd_X5_isLetter (cI cZ cR : ClassId) : va_W := []
def F_X5_isLetter_12 (x0 : Int32) : Option (Int32) := (if x0 < (65 : Int32) then (some (0 : Int32)) else (if (90 : Int32) < x0 then (some (0 : Int32)) else (some (1 : Int32))))
def F_X5_isLetter (x0 : Int32) : Option (Int32) := (if x0 < (97 : Int32) then (F_X5_isLetter_12 x0) else (if x0 ≤ (122 : Int32) then (some (1 : Int32)) else (F_X5_isLetter_12 x0)))
set_option maxHeartbeats 4000000 in
set_option maxRecDepth 100000 in
theorem w_X5_isLetter_12 {p : Program} {l : Launch} {e : Env} {s : State} {m : MethodId} {args : Array Value} {below : List Frame} {meth : Method} {c : Code} {D : va_G} {cI cZ cR : ClassId} {A : Nat → Prop} {x0 : Int32} {out : Int32} (X : cx p s m args meth c cX5_isLetter 1 (some .boolean) RX5 wsX5_isLetter) (hK : va_K D vwCl (ty3 cI cZ cR) s) (hA : ∀ q, s.heap.size ≤ q → A q) : F_X5_isLetter_12 x0 = some out → ∀ (H : Heap) (locs : List Loc), va_P D vwCl (wd_X5_isLetter cI cZ cR) H → va_D A (wd_X5_isLetter cI cZ cR) → va_S A s.heap H locs → ∀ (ls : Array Slot), lv_has ls 1 [(0, .int x0)] → W p l e (headSpec wsX5_isLetter ({ frames := 0, cells := 0, slots := 0, locals := 0 } : Room)).room s m args below meth c H locs 0 0 (MQ below (qi D cI cZ cR A (out) (wd_X5_isLetter cI cZ cR)) args s 0 0 A) (F0 m 12 ls []) := by
  obtain ⟨hx, hb, hml, hr, hown, hts, hlocks, hN⟩ := id X
  intro hf H locs hP hD hS ls hl
  unfold F_X5_isLetter_12 at hf
  refine lv_iload_n hx hb dX5_isLetter_12 rfl (lv_at hl 0 rfl) ?_
  refine lv_bipush (v := (65 : Int32)) hx hb dX5_isLetter_13 (by decide) ?_
  refine lv_icmp_lt (tgt := 28) hx hb dX5_isLetter_15 (by decide) (fun c3 => ?_) (fun c3 => ?_)
  · have hf := ipos c3 hf
    refine lv_iconst (v := (0 : Int32)) hx hb dX5_isLetter_28 (by decide) ?_
    cases hf
    exact retz (Or.inl rfl) X hK hP hD hS dX5_isLetter_29
  · have hf := ineg c3 hf
    refine lv_iload_n hx hb dX5_isLetter_18 rfl (lv_at hl 0 rfl) ?_
    refine lv_bipush (v := (90 : Int32)) hx hb dX5_isLetter_19 (by decide) ?_
    refine lv_icmp_gt (tgt := 28) hx hb dX5_isLetter_21 (by decide) (fun c4 => ?_) (fun c4 => ?_)
    · have hf := ipos c4 hf
      refine lv_iconst (v := (0 : Int32)) hx hb dX5_isLetter_28 (by decide) ?_
      cases hf
      exact retz (Or.inl rfl) X hK hP hD hS dX5_isLetter_29
    · have hf := ineg c4 hf
      refine lv_iconst (v := (1 : Int32)) hx hb dX5_isLetter_24 (by decide) ?_
      refine lv_goto (tgt := 29) hx hb dX5_isLetter_25 (by decide) ?_
      cases hf
      exact retz (Or.inr rfl) X hK hP hD hS dX5_isLetter_29
set_option maxHeartbeats 4000000 in
set_option maxRecDepth 100000 in
theorem c_X5_isLetter (l : Launch) (D : va_G) (cI cZ cR : ClassId) {x0 : Int32} {sz : Nat} {out : Int32} (hf : F_X5_isLetter x0 = some out) : CI l yX5_isLetter wsX5_isLetter ({ frames := 0, cells := 0, slots := 0, locals := 0 } : Room) D cI cZ cR [.int x0] (wd_X5_isLetter cI cZ cR) sz (out) (wd_X5_isLetter cI cZ cR) := by
  refine met_of (Qf := fun A => qi D cI cZ cR A (out) (wd_X5_isLetter cI cZ cR)) RX5 (by decide +kernel) rfl rfl (Nat.le_of_ble_eq_true rfl) ?_
  intro p e s m below meth c A X hK hA hP hD hS ls hl
  have hl : lv_has ls 1 [(0, .int x0)] := hl
  obtain ⟨hx, hb, hml, hr, hown, hts, hlocks, hN⟩ := id X
  unfold F_X5_isLetter at hf
  refine lv_iload_n hx hb dX5_isLetter_0 rfl (lv_at hl 0 rfl) ?_
  refine lv_bipush (v := (97 : Int32)) hx hb dX5_isLetter_1 (by decide) ?_
  refine lv_icmp_lt (tgt := 12) hx hb dX5_isLetter_3 (by decide) (fun c1 => ?_) (fun c1 => ?_)
  · have hf := ipos c1 hf
    exact w_X5_isLetter_12 X hK hA hf _ _ hP hD hS _ (lv_sub hl [0] rfl)
  · have hf := ineg c1 hf
    refine lv_iload_n hx hb dX5_isLetter_6 rfl (lv_at hl 0 rfl) ?_
    refine lv_bipush (v := (122 : Int32)) hx hb dX5_isLetter_7 (by decide) ?_
    refine lv_icmp_le (tgt := 24) hx hb dX5_isLetter_9 (by decide) (fun c2 => ?_) (fun c2 => ?_)
    · have hf := ipos c2 hf
      refine lv_iconst (v := (1 : Int32)) hx hb dX5_isLetter_24 (by decide) ?_
      refine lv_goto (tgt := 29) hx hb dX5_isLetter_25 (by decide) ?_
      cases hf
      exact retz (Or.inr rfl) X hK hP hD hS dX5_isLetter_29
    · have hf := ineg c2 hf
      exact w_X5_isLetter_12 X hK hA hf _ _ hP hD hS _ (lv_sub hl [0] rfl)

abbrev wd_X5_emit (cI cZ cR : ClassId) (a_t a_t_text a_t_code a_t_waiting : Nat) (t_length t_codes t_waits t_fault t_faultPlace t_at t_place t_sign t_number t_state t_name t_compared t_open t_parentheses : Int32) (t_code_r : Nat → Int32) : va_W := [(a_t, oB 5 [.ref a_t_text, .ref a_t_code, .ref a_t_waiting, .int t_length, .int t_codes, .int t_waits, .int t_fault, .int t_faultPlace, .int t_at, .int t_place, .int t_sign, .int t_number, .int t_state, .int t_name, .int t_compared, .int t_open, .int t_parentheses]), (a_t_code, aI cI 400 t_code_r)]
def F_X5_emit (x1 : Int32) (x2 : Int32) (t_codes : Int32) (t_code_r : Nat → Int32) : Option (Int32 × (Nat → Int32)) := ((F_X11_inside t_codes (400 : Int32)).bind (fun r1 => (if r1 = 0 then (some (t_codes, t_code_r)) else (gin t_codes 400 (some ((t_codes + (1 : Int32)), (upd t_code_r (t_codes).toNatClampNeg ((x1 <<< ((14 : Int32) &&& 31)) ||| (x2 &&& (16383 : Int32))))))))))
set_option maxRecDepth 100000 in
theorem in_X5_emit_X5 : ∀ w ∈ wsX50, w ∈ wsX5_emit := by decide +kernel
set_option maxHeartbeats 4000000 in
set_option maxRecDepth 100000 in
theorem c_X5_emit (l : Launch) (D : va_G) (cI cZ cR : ClassId) {a_t a_t_text a_t_code a_t_waiting : Nat} {t_length : Int32} {t_codes : Int32} {t_waits : Int32} {t_fault : Int32} {t_faultPlace : Int32} {t_at : Int32} {t_place : Int32} {t_sign : Int32} {t_number : Int32} {t_state : Int32} {t_name : Int32} {t_compared : Int32} {t_open : Int32} {t_parentheses : Int32} {t_code_r : Nat → Int32} {x1 : Int32} {x2 : Int32} {sz : Nat} {out : Int32 × (Nat → Int32)} (hf : F_X5_emit x1 x2 t_codes t_code_r = some out) : CV l yX5_emit wsX5_emit ({ frames := 1, cells := 0, slots := 0, locals := 21 } : Room) D cI cZ cR [.ref a_t, .int x1, .int x2] (wd_X5_emit cI cZ cR a_t a_t_text a_t_code a_t_waiting t_length t_codes t_waits t_fault t_faultPlace t_at t_place t_sign t_number t_state t_name t_compared t_open t_parentheses t_code_r) sz (wd_X5_emit cI cZ cR a_t a_t_text a_t_code a_t_waiting t_length (out.1) t_waits t_fault t_faultPlace t_at t_place t_sign t_number t_state t_name t_compared t_open t_parentheses (out.2)) := by
  refine met_of (Qf := fun A => qv D cI cZ cR A (wd_X5_emit cI cZ cR a_t a_t_text a_t_code a_t_waiting t_length (out.1) t_waits t_fault t_faultPlace t_at t_place t_sign t_number t_state t_name t_compared t_open t_parentheses (out.2))) RX5 (by decide +kernel) rfl rfl (Nat.le_of_ble_eq_true rfl) ?_
  intro p e s m below meth c A X hK hA hP hD hS ls hl
  have hl : lv_has ls 3 [(0, .ref a_t), (1, .int x1), (2, .int x2)] := hl
  obtain ⟨hx, hb, hml, hr, hown, hts, hlocks, hN⟩ := id X
  unfold F_X5_emit at hf
  refine lv_aload_n hx hb dX5_emit_0 rfl (lv_at hl 0 rfl) ?_
  refine va_get (D := D) (ci := 5) (v := .int t_codes) (C := RX5) (T := TX5) (N := 17) hx hb hts in_X5_emit_X5 hown hK hP 0 rfl rfl 4 (by decide) (hts (.fieldLink RX5 28 "DivisionHall$Reader" "codes" "I") (by decide +kernel)) (fun _ h9 => h9) rfl dX5_emit_1 ?_
  refine lv_sipush (v := (400 : Int32)) hx hb dX5_emit_4 (by decide) ?_
  obtain ⟨r1, hr2, hf⟩ := bnd hf
  refine wcalli (D := D) (cI := cI) (cZ := cZ) (cR := cR) (wc := (wd_X11_inside cI cZ cR)) (w' := (wd_X11_inside cI cZ cR)) [] hP hD hS hA rfl rfl rfl (rnSN (As := [.int t_codes, .int (400 : Int32)]) X [] hK hP hD rfl rfl (c_X11_inside l D cI cZ cR hr2) ⟨va_cnB (host := "DivisionHall") 2 hts ggX5_emit_X11_inside rfl rfl rfl (hN.2.1 ("DivisionHall$Reader", 168, yX11_inside, "DivisionHall") (by decide +kernel)) (hts (.initialized RX11) (by decide +kernel)) (by decide +kernel) ⟨Nat.le_of_ble_eq_true rfl, Nat.le_of_ble_eq_true rfl⟩, hts (.static yX11_inside) (by decide +kernel), trivial⟩ rfl hl.1 rfl (Nat.le_of_ble_eq_true rfl) dX5_emit_7) (fun H locs hP hD hS => ?_)
  have hP : va_P D vwCl (wd_X5_emit cI cZ cR a_t a_t_text a_t_code a_t_waiting t_length t_codes t_waits t_fault t_faultPlace t_at t_place t_sign t_number t_state t_name t_compared t_open t_parentheses t_code_r) H := hP
  have hD : va_D A (wd_X5_emit cI cZ cR a_t a_t_text a_t_code a_t_waiting t_length t_codes t_waits t_fault t_faultPlace t_at t_place t_sign t_number t_state t_name t_compared t_open t_parentheses t_code_r) := hD
  refine lv_if_eq (tgt := 42) hx hb dX5_emit_10 (by decide) (fun c3 => ?_) (fun c3 => ?_)
  · have hf := ipos c3 hf
    cases hf
    exact retv X hK hP hD hS dX5_emit_42
  · have hf := ineg c3 hf
    refine lv_aload_n hx hb dX5_emit_13 rfl (lv_at hl 0 rfl) ?_
    refine va_get (D := D) (ci := 5) (v := .ref a_t_code) (C := RX5) (T := TX5) (N := 17) hx hb hts in_X5_emit_X5 hown hK hP 0 rfl rfl 1 (by decide) (hts (.fieldLink RX5 15 "DivisionHall$Reader" "code" "[I") (by decide +kernel)) (fun _ h9 => h9) rfl dX5_emit_14 ?_
    refine lv_aload_n hx hb dX5_emit_17 rfl (lv_at hl 0 rfl) ?_
    refine va_get (D := D) (ci := 5) (v := .int t_codes) (C := RX5) (T := TX5) (N := 17) hx hb hts in_X5_emit_X5 hown hK hP 0 rfl rfl 4 (by decide) (hts (.fieldLink RX5 28 "DivisionHall$Reader" "codes" "I") (by decide +kernel)) (fun _ h9 => h9) rfl dX5_emit_18 ?_
    refine lv_iload_n hx hb dX5_emit_21 rfl (lv_at hl 1 rfl) ?_
    refine lv_bipush (v := (14 : Int32)) hx hb dX5_emit_22 (by decide) ?_
    refine lv_ishl hx hb dX5_emit_24 ?_
    refine lv_iload_n hx hb dX5_emit_25 rfl (lv_at hl 2 rfl) ?_
    refine lv_sipush (v := (16383 : Int32)) hx hb dX5_emit_26 (by decide) ?_
    refine lv_iand hx hb dX5_emit_29 ?_
    refine lv_ior hx hb dX5_emit_30 ?_
    obtain ⟨hi4, hf⟩ := gin_s hf
    refine va_iast hx hb hK hP hD hS 1 0 rfl rfl hi4 dX5_emit_31 (fun H locs hP hD hS => ?_)
    have hP : va_P D vwCl (wd_X5_emit cI cZ cR a_t a_t_text a_t_code a_t_waiting t_length t_codes t_waits t_fault t_faultPlace t_at t_place t_sign t_number t_state t_name t_compared t_open t_parentheses (upd t_code_r (t_codes).toNatClampNeg ((x1 <<< ((14 : Int32) &&& 31)) ||| (x2 &&& (16383 : Int32))))) H := hP
    have hD : va_D A (wd_X5_emit cI cZ cR a_t a_t_text a_t_code a_t_waiting t_length t_codes t_waits t_fault t_faultPlace t_at t_place t_sign t_number t_state t_name t_compared t_open t_parentheses (upd t_code_r (t_codes).toNatClampNeg ((x1 <<< ((14 : Int32) &&& 31)) ||| (x2 &&& (16383 : Int32))))) := hD
    refine lv_aload_n hx hb dX5_emit_32 rfl (lv_at hl 0 rfl) ?_
    refine lv_dup hx hb dX5_emit_33 rfl ?_
    refine va_get (D := D) (ci := 5) (v := .int t_codes) (C := RX5) (T := TX5) (N := 17) hx hb hts in_X5_emit_X5 hown hK hP 0 rfl rfl 4 (by decide) (hts (.fieldLink RX5 28 "DivisionHall$Reader" "codes" "I") (by decide +kernel)) (fun _ h9 => h9) rfl dX5_emit_34 ?_
    refine lv_iconst (v := (1 : Int32)) hx hb dX5_emit_37 (by decide) ?_
    refine lv_iadd hx hb dX5_emit_38 ?_
    refine va_put (D := D) (ci := 5) (v := .int (t_codes + (1 : Int32))) (ty := .int) (C := RX5) (T := TX5) (N := 17) hx hb hts in_X5_emit_X5 tyX5 tyX5_ok nmX5 hown hK hP hD hS 0 rfl rfl 4 (by decide) (hts (.fieldLink RX5 28 "DivisionHall$Reader" "codes" "I") (by decide +kernel)) (fun _ h9 => h9) rfl (by decide +kernel) rfl rfl (Nat.le_of_ble_eq_true rfl) dX5_emit_39 (fun H locs hP hD hS => ?_)
    have hP : va_P D vwCl (wd_X5_emit cI cZ cR a_t a_t_text a_t_code a_t_waiting t_length (t_codes + (1 : Int32)) t_waits t_fault t_faultPlace t_at t_place t_sign t_number t_state t_name t_compared t_open t_parentheses (upd t_code_r (t_codes).toNatClampNeg ((x1 <<< ((14 : Int32) &&& 31)) ||| (x2 &&& (16383 : Int32))))) H := hP
    have hD : va_D A (wd_X5_emit cI cZ cR a_t a_t_text a_t_code a_t_waiting t_length (t_codes + (1 : Int32)) t_waits t_fault t_faultPlace t_at t_place t_sign t_number t_state t_name t_compared t_open t_parentheses (upd t_code_r (t_codes).toNatClampNeg ((x1 <<< ((14 : Int32) &&& 31)) ||| (x2 &&& (16383 : Int32))))) := hD
    cases hf
    exact retv X hK hP hD hS dX5_emit_42

abbrev wd_X5_push (cI cZ cR : ClassId) (a_t a_t_text a_t_code a_t_waiting : Nat) (t_length t_codes t_waits t_fault t_faultPlace t_at t_place t_sign t_number t_state t_name t_compared t_open t_parentheses : Int32) (t_waiting_r : Nat → Int32) : va_W := [(a_t, oB 5 [.ref a_t_text, .ref a_t_code, .ref a_t_waiting, .int t_length, .int t_codes, .int t_waits, .int t_fault, .int t_faultPlace, .int t_at, .int t_place, .int t_sign, .int t_number, .int t_state, .int t_name, .int t_compared, .int t_open, .int t_parentheses]), (a_t_waiting, aI cI 40 t_waiting_r)]
def F_X5_push (t_sign : Int32) (t_waits : Int32) (t_waiting_r : Nat → Int32) : Option (Int32 × (Nat → Int32)) := ((F_X11_inside t_waits (40 : Int32)).bind (fun r1 => (if r1 = 0 then (some (t_waits, t_waiting_r)) else (gin t_waits 40 (some ((t_waits + (1 : Int32)), (upd t_waiting_r (t_waits).toNatClampNeg t_sign)))))))
set_option maxRecDepth 100000 in
theorem in_X5_push_X5 : ∀ w ∈ wsX50, w ∈ wsX5_push := by decide +kernel
set_option maxHeartbeats 4000000 in
set_option maxRecDepth 100000 in
theorem c_X5_push (l : Launch) (D : va_G) (cI cZ cR : ClassId) {a_t a_t_text a_t_code a_t_waiting : Nat} {t_length : Int32} {t_codes : Int32} {t_waits : Int32} {t_fault : Int32} {t_faultPlace : Int32} {t_at : Int32} {t_place : Int32} {t_sign : Int32} {t_number : Int32} {t_state : Int32} {t_name : Int32} {t_compared : Int32} {t_open : Int32} {t_parentheses : Int32} {t_waiting_r : Nat → Int32} {sz : Nat} {out : Int32 × (Nat → Int32)} (hf : F_X5_push t_sign t_waits t_waiting_r = some out) : CV l yX5_push wsX5_push ({ frames := 1, cells := 0, slots := 0, locals := 21 } : Room) D cI cZ cR [.ref a_t] (wd_X5_push cI cZ cR a_t a_t_text a_t_code a_t_waiting t_length t_codes t_waits t_fault t_faultPlace t_at t_place t_sign t_number t_state t_name t_compared t_open t_parentheses t_waiting_r) sz (wd_X5_push cI cZ cR a_t a_t_text a_t_code a_t_waiting t_length t_codes (out.1) t_fault t_faultPlace t_at t_place t_sign t_number t_state t_name t_compared t_open t_parentheses (out.2)) := by
  refine met_of (Qf := fun A => qv D cI cZ cR A (wd_X5_push cI cZ cR a_t a_t_text a_t_code a_t_waiting t_length t_codes (out.1) t_fault t_faultPlace t_at t_place t_sign t_number t_state t_name t_compared t_open t_parentheses (out.2))) RX5 (by decide +kernel) rfl rfl (Nat.le_of_ble_eq_true rfl) ?_
  intro p e s m below meth c A X hK hA hP hD hS ls hl
  have hl : lv_has ls 1 [(0, .ref a_t)] := hl
  obtain ⟨hx, hb, hml, hr, hown, hts, hlocks, hN⟩ := id X
  unfold F_X5_push at hf
  refine lv_aload_n hx hb dX5_push_0 rfl (lv_at hl 0 rfl) ?_
  refine va_get (D := D) (ci := 5) (v := .int t_waits) (C := RX5) (T := TX5) (N := 17) hx hb hts in_X5_push_X5 hown hK hP 0 rfl rfl 5 (by decide) (hts (.fieldLink RX5 31 "DivisionHall$Reader" "waits" "I") (by decide +kernel)) (fun _ h9 => h9) rfl dX5_push_1 ?_
  refine lv_bipush (v := (40 : Int32)) hx hb dX5_push_4 (by decide) ?_
  obtain ⟨r1, hr2, hf⟩ := bnd hf
  refine wcalli (D := D) (cI := cI) (cZ := cZ) (cR := cR) (wc := (wd_X11_inside cI cZ cR)) (w' := (wd_X11_inside cI cZ cR)) [] hP hD hS hA rfl rfl rfl (rnSN (As := [.int t_waits, .int (40 : Int32)]) X [] hK hP hD rfl rfl (c_X11_inside l D cI cZ cR hr2) ⟨va_cnB (host := "DivisionHall") 2 hts ggX5_push_X11_inside rfl rfl rfl (hN.2.1 ("DivisionHall$Reader", 168, yX11_inside, "DivisionHall") (by decide +kernel)) (hts (.initialized RX11) (by decide +kernel)) (by decide +kernel) ⟨Nat.le_of_ble_eq_true rfl, Nat.le_of_ble_eq_true rfl⟩, hts (.static yX11_inside) (by decide +kernel), trivial⟩ rfl hl.1 rfl (Nat.le_of_ble_eq_true rfl) dX5_push_6) (fun H locs hP hD hS => ?_)
  have hP : va_P D vwCl (wd_X5_push cI cZ cR a_t a_t_text a_t_code a_t_waiting t_length t_codes t_waits t_fault t_faultPlace t_at t_place t_sign t_number t_state t_name t_compared t_open t_parentheses t_waiting_r) H := hP
  have hD : va_D A (wd_X5_push cI cZ cR a_t a_t_text a_t_code a_t_waiting t_length t_codes t_waits t_fault t_faultPlace t_at t_place t_sign t_number t_state t_name t_compared t_open t_parentheses t_waiting_r) := hD
  refine lv_if_eq (tgt := 35) hx hb dX5_push_9 (by decide) (fun c3 => ?_) (fun c3 => ?_)
  · have hf := ipos c3 hf
    cases hf
    exact retv X hK hP hD hS dX5_push_35
  · have hf := ineg c3 hf
    refine lv_aload_n hx hb dX5_push_12 rfl (lv_at hl 0 rfl) ?_
    refine va_get (D := D) (ci := 5) (v := .ref a_t_waiting) (C := RX5) (T := TX5) (N := 17) hx hb hts in_X5_push_X5 hown hK hP 0 rfl rfl 2 (by decide) (hts (.fieldLink RX5 18 "DivisionHall$Reader" "waiting" "[I") (by decide +kernel)) (fun _ h9 => h9) rfl dX5_push_13 ?_
    refine lv_aload_n hx hb dX5_push_16 rfl (lv_at hl 0 rfl) ?_
    refine va_get (D := D) (ci := 5) (v := .int t_waits) (C := RX5) (T := TX5) (N := 17) hx hb hts in_X5_push_X5 hown hK hP 0 rfl rfl 5 (by decide) (hts (.fieldLink RX5 31 "DivisionHall$Reader" "waits" "I") (by decide +kernel)) (fun _ h9 => h9) rfl dX5_push_17 ?_
    refine lv_aload_n hx hb dX5_push_20 rfl (lv_at hl 0 rfl) ?_
    refine va_get (D := D) (ci := 5) (v := .int t_sign) (C := RX5) (T := TX5) (N := 17) hx hb hts in_X5_push_X5 hown hK hP 0 rfl rfl 10 (by decide) (hts (.fieldLink RX5 64 "DivisionHall$Reader" "sign" "I") (by decide +kernel)) (fun _ h9 => h9) rfl dX5_push_21 ?_
    obtain ⟨hi4, hf⟩ := gin_s hf
    refine va_iast hx hb hK hP hD hS 1 0 rfl rfl hi4 dX5_push_24 (fun H locs hP hD hS => ?_)
    have hP : va_P D vwCl (wd_X5_push cI cZ cR a_t a_t_text a_t_code a_t_waiting t_length t_codes t_waits t_fault t_faultPlace t_at t_place t_sign t_number t_state t_name t_compared t_open t_parentheses (upd t_waiting_r (t_waits).toNatClampNeg t_sign)) H := hP
    have hD : va_D A (wd_X5_push cI cZ cR a_t a_t_text a_t_code a_t_waiting t_length t_codes t_waits t_fault t_faultPlace t_at t_place t_sign t_number t_state t_name t_compared t_open t_parentheses (upd t_waiting_r (t_waits).toNatClampNeg t_sign)) := hD
    refine lv_aload_n hx hb dX5_push_25 rfl (lv_at hl 0 rfl) ?_
    refine lv_dup hx hb dX5_push_26 rfl ?_
    refine va_get (D := D) (ci := 5) (v := .int t_waits) (C := RX5) (T := TX5) (N := 17) hx hb hts in_X5_push_X5 hown hK hP 0 rfl rfl 5 (by decide) (hts (.fieldLink RX5 31 "DivisionHall$Reader" "waits" "I") (by decide +kernel)) (fun _ h9 => h9) rfl dX5_push_27 ?_
    refine lv_iconst (v := (1 : Int32)) hx hb dX5_push_30 (by decide) ?_
    refine lv_iadd hx hb dX5_push_31 ?_
    refine va_put (D := D) (ci := 5) (v := .int (t_waits + (1 : Int32))) (ty := .int) (C := RX5) (T := TX5) (N := 17) hx hb hts in_X5_push_X5 tyX5 tyX5_ok nmX5 hown hK hP hD hS 0 rfl rfl 5 (by decide) (hts (.fieldLink RX5 31 "DivisionHall$Reader" "waits" "I") (by decide +kernel)) (fun _ h9 => h9) rfl (by decide +kernel) rfl rfl (Nat.le_of_ble_eq_true rfl) dX5_push_32 (fun H locs hP hD hS => ?_)
    have hP : va_P D vwCl (wd_X5_push cI cZ cR a_t a_t_text a_t_code a_t_waiting t_length t_codes (t_waits + (1 : Int32)) t_fault t_faultPlace t_at t_place t_sign t_number t_state t_name t_compared t_open t_parentheses (upd t_waiting_r (t_waits).toNatClampNeg t_sign)) H := hP
    have hD : va_D A (wd_X5_push cI cZ cR a_t a_t_text a_t_code a_t_waiting t_length t_codes (t_waits + (1 : Int32)) t_fault t_faultPlace t_at t_place t_sign t_number t_state t_name t_compared t_open t_parentheses (upd t_waiting_r (t_waits).toNatClampNeg t_sign)) := hD
    cases hf
    exact retv X hK hP hD hS dX5_push_35

abbrev wd_X5_release (cI cZ cR : ClassId) (a_t a_t_text a_t_code a_t_waiting : Nat) (t_length t_codes t_waits t_fault t_faultPlace t_at t_place t_sign t_number t_state t_name t_compared t_open t_parentheses : Int32) (t_code_r : Nat → Int32) (t_waiting_r : Nat → Int32) : va_W := [(a_t, oB 5 [.ref a_t_text, .ref a_t_code, .ref a_t_waiting, .int t_length, .int t_codes, .int t_waits, .int t_fault, .int t_faultPlace, .int t_at, .int t_place, .int t_sign, .int t_number, .int t_state, .int t_name, .int t_compared, .int t_open, .int t_parentheses]), (a_t_code, aI cI 400 t_code_r), (a_t_waiting, aI cI 40 t_waiting_r)]
def F_X5_release_69 (x1 : Int32) (t_waiting_r : Nat → Int32) (rec2 : Int32 → Int32 → Int32 → Int32 → (Nat → Int32) → Option (Int32 × Int32 × Int32 × (Nat → Int32))) (x2 : Int32) (x3 : Int32) (t_codes : Int32) (t_open : Int32) (t_waits : Int32) (t_code_r : Nat → Int32) : Option (Int32 × Int32 × Int32 × (Nat → Int32)) := ((F_X5_emit x3 (0 : Int32) t_codes t_code_r).bind (fun r10 => (rec2 (x2 + (1 : Int32)) (r10.1) t_open t_waits (r10.2))))
def F_X5_release_2 (x1 : Int32) (t_waiting_r : Nat → Int32) : Nat → Int32 → Int32 → Int32 → Int32 → (Nat → Int32) → Option (Int32 × Int32 × Int32 × (Nat → Int32))
  | 0, _, _, _, _, _ => none
  | n + 1, x2, t_codes, t_open, t_waits, t_code_r => (if (40 : Int32) ≤ x2 then (some (t_codes, t_open, t_waits, t_code_r)) else ((F_X11_inside (t_waits - (1 : Int32)) (40 : Int32)).bind (fun r2 => (if r2 = 0 then (some (t_codes, t_open, t_waits, t_code_r)) else (gin (t_waits - (1 : Int32)) 40 ((F_X8_rank (t_waiting_r ((t_waits - (1 : Int32))).toNatClampNeg)).bind (fun r6 => (if x1 ≤ r6 then (if (t_waiting_r ((t_waits - (1 : Int32))).toNatClampNeg) = (14 : Int32) then (F_X5_release_69 x1 t_waiting_r (F_X5_release_2 x1 t_waiting_r n) x2 (t_waiting_r ((t_waits - (1 : Int32))).toNatClampNeg) t_codes (t_open - (1 : Int32)) (t_waits - (1 : Int32)) t_code_r) else (F_X5_release_69 x1 t_waiting_r (F_X5_release_2 x1 t_waiting_r n) x2 (t_waiting_r ((t_waits - (1 : Int32))).toNatClampNeg) t_codes t_open (t_waits - (1 : Int32)) t_code_r)) else (some (t_codes, t_open, t_waits, t_code_r))))))))))
def F_X5_release (x1 : Int32) (t_codes : Int32) (t_open : Int32) (t_waits : Int32) (t_code_r : Nat → Int32) (t_waiting_r : Nat → Int32) : Option (Int32 × Int32 × Int32 × (Nat → Int32)) := (F_X5_release_2 x1 t_waiting_r FU (0 : Int32) t_codes t_open t_waits t_code_r)
set_option maxRecDepth 100000 in
theorem in_X5_release_X5 : ∀ w ∈ wsX50, w ∈ wsX5_release := by decide +kernel
set_option maxHeartbeats 4000000 in
set_option maxRecDepth 100000 in
theorem w_X5_release_69 {p : Program} {l : Launch} {e : Env} {s : State} {m : MethodId} {args : Array Value} {below : List Frame} {meth : Method} {c : Code} {D : va_G} {cI cZ cR : ClassId} {A : Nat → Prop} {a_t a_t_text a_t_code a_t_waiting : Nat} {t_length : Int32} {t_fault : Int32} {t_faultPlace : Int32} {t_at : Int32} {t_place : Int32} {t_sign : Int32} {t_number : Int32} {t_state : Int32} {t_name : Int32} {t_compared : Int32} {t_parentheses : Int32} {t_waiting_r : Nat → Int32} {x1 : Int32} {rec2 : Int32 → Int32 → Int32 → Int32 → (Nat → Int32) → Option (Int32 × Int32 × Int32 × (Nat → Int32))} {out : Int32 × Int32 × Int32 × (Nat → Int32)} (X : cx p s m args meth c cX5_release 4 none RX5 wsX5_release) (hK : va_K D vwCl (ty3 cI cZ cR) s) (hA : ∀ q, s.heap.size ≤ q → A q) (hrec2 : ∀ (x2 : Int32) (t_codes : Int32) (t_open : Int32) (t_waits : Int32) (t_code_r : Nat → Int32), rec2 x2 t_codes t_open t_waits t_code_r = some out → ∀ (H : Heap) (locs : List Loc), va_P D vwCl (wd_X5_release cI cZ cR a_t a_t_text a_t_code a_t_waiting t_length t_codes t_waits t_fault t_faultPlace t_at t_place t_sign t_number t_state t_name t_compared t_open t_parentheses t_code_r t_waiting_r) H → va_D A (wd_X5_release cI cZ cR a_t a_t_text a_t_code a_t_waiting t_length t_codes t_waits t_fault t_faultPlace t_at t_place t_sign t_number t_state t_name t_compared t_open t_parentheses t_code_r t_waiting_r) → va_S A s.heap H locs → ∀ (ls : Array Slot), lv_has ls 4 [(0, .ref a_t), (1, .int x1), (2, .int x2)] → W p l e (headSpec wsX5_release ({ frames := 2, cells := 0, slots := 0, locals := 43 } : Room)).room s m args below meth c H locs 0 0 (MQ below (qv D cI cZ cR A (wd_X5_release cI cZ cR a_t a_t_text a_t_code a_t_waiting t_length (out.1) (out.2.2.1) t_fault t_faultPlace t_at t_place t_sign t_number t_state t_name t_compared (out.2.1) t_parentheses (out.2.2.2) t_waiting_r)) args s 0 0 A) (F0 m 2 ls [])) : ∀ (x2 : Int32) (x3 : Int32) (t_codes : Int32) (t_open : Int32) (t_waits : Int32) (t_code_r : Nat → Int32), F_X5_release_69 x1 t_waiting_r rec2 x2 x3 t_codes t_open t_waits t_code_r = some out → ∀ (H : Heap) (locs : List Loc), va_P D vwCl (wd_X5_release cI cZ cR a_t a_t_text a_t_code a_t_waiting t_length t_codes t_waits t_fault t_faultPlace t_at t_place t_sign t_number t_state t_name t_compared t_open t_parentheses t_code_r t_waiting_r) H → va_D A (wd_X5_release cI cZ cR a_t a_t_text a_t_code a_t_waiting t_length t_codes t_waits t_fault t_faultPlace t_at t_place t_sign t_number t_state t_name t_compared t_open t_parentheses t_code_r t_waiting_r) → va_S A s.heap H locs → ∀ (ls : Array Slot), lv_has ls 4 [(0, .ref a_t), (1, .int x1), (2, .int x2), (3, .int x3)] → W p l e (headSpec wsX5_release ({ frames := 2, cells := 0, slots := 0, locals := 43 } : Room)).room s m args below meth c H locs 0 0 (MQ below (qv D cI cZ cR A (wd_X5_release cI cZ cR a_t a_t_text a_t_code a_t_waiting t_length (out.1) (out.2.2.1) t_fault t_faultPlace t_at t_place t_sign t_number t_state t_name t_compared (out.2.1) t_parentheses (out.2.2.2) t_waiting_r)) args s 0 0 A) (F0 m 69 ls []) := by
  obtain ⟨hx, hb, hml, hr, hown, hts, hlocks, hN⟩ := id X
  intro x2 x3 t_codes t_open t_waits t_code_r hf H locs hP hD hS ls hl
  unfold F_X5_release_69 at hf
  refine lv_aload_n hx hb dX5_release_69 rfl (lv_at hl 0 rfl) ?_
  refine lv_iload_n hx hb dX5_release_70 rfl (lv_at hl 3 rfl) ?_
  refine lv_iconst (v := (0 : Int32)) hx hb dX5_release_71 (by decide) ?_
  obtain ⟨r10, hr11, hf⟩ := bnd hf
  refine wcallv (D := D) (cI := cI) (cZ := cZ) (cR := cR) (wc := (wd_X5_emit cI cZ cR a_t a_t_text a_t_code a_t_waiting t_length t_codes t_waits t_fault t_faultPlace t_at t_place t_sign t_number t_state t_name t_compared t_open t_parentheses t_code_r)) (w' := (wd_X5_emit cI cZ cR a_t a_t_text a_t_code a_t_waiting t_length (r10.1) t_waits t_fault t_faultPlace t_at t_place t_sign t_number t_state t_name t_compared t_open t_parentheses (r10.2))) [0, 1] hP hD hS hA rfl rfl rfl (rnV (As := [.int x3, .int (0 : Int32)]) (ci := 5) (q0 := 0) X [0, 1] hK hP hD rfl rfl rfl rfl (c_X5_emit l D cI cZ cR hr11) (cwV 2 hts gX5_release_X5_emit rfl rfl rfl (by decide +kernel) ⟨Nat.le_of_ble_eq_true rfl, Nat.le_of_ble_eq_true rfl⟩) rfl hl.1 rfl (Nat.le_of_ble_eq_true rfl) dX5_release_72) (fun H locs hP hD hS => ?_)
  have hP : va_P D vwCl (wd_X5_release cI cZ cR a_t a_t_text a_t_code a_t_waiting t_length (r10.1) t_waits t_fault t_faultPlace t_at t_place t_sign t_number t_state t_name t_compared t_open t_parentheses (r10.2) t_waiting_r) H := hP
  have hD : va_D A (wd_X5_release cI cZ cR a_t a_t_text a_t_code a_t_waiting t_length (r10.1) t_waits t_fault t_faultPlace t_at t_place t_sign t_number t_state t_name t_compared t_open t_parentheses (r10.2) t_waiting_r) := hD
  refine lv_iinc (v := (x2 + (1 : Int32))) (lv' := [(2, .int (x2 + (1 : Int32))), (0, .ref a_t), (1, .int x1), (3, .int x3)]) hx hb dX5_release_75 hl (k := 2) rfl rfl (by decide) rfl (fun ls hl => ?_)
  refine lv_goto (tgt := 2) hx hb dX5_release_78 (by decide) ?_
  exact hrec2 (x2 + (1 : Int32)) (r10.1) t_open t_waits (r10.2) hf _ _ hP hD hS _ (lv_sub hl [1, 2, 0] rfl)
set_option maxHeartbeats 4000000 in
set_option maxRecDepth 100000 in
theorem w_X5_release_2 {p : Program} {l : Launch} {e : Env} {s : State} {m : MethodId} {args : Array Value} {below : List Frame} {meth : Method} {c : Code} {D : va_G} {cI cZ cR : ClassId} {A : Nat → Prop} {a_t a_t_text a_t_code a_t_waiting : Nat} {t_length : Int32} {t_fault : Int32} {t_faultPlace : Int32} {t_at : Int32} {t_place : Int32} {t_sign : Int32} {t_number : Int32} {t_state : Int32} {t_name : Int32} {t_compared : Int32} {t_parentheses : Int32} {t_waiting_r : Nat → Int32} {x1 : Int32} {out : Int32 × Int32 × Int32 × (Nat → Int32)} (X : cx p s m args meth c cX5_release 4 none RX5 wsX5_release) (hK : va_K D vwCl (ty3 cI cZ cR) s) (hA : ∀ q, s.heap.size ≤ q → A q) : ∀ (n : Nat) (x2 : Int32) (t_codes : Int32) (t_open : Int32) (t_waits : Int32) (t_code_r : Nat → Int32), F_X5_release_2 x1 t_waiting_r n x2 t_codes t_open t_waits t_code_r = some out → ∀ (H : Heap) (locs : List Loc), va_P D vwCl (wd_X5_release cI cZ cR a_t a_t_text a_t_code a_t_waiting t_length t_codes t_waits t_fault t_faultPlace t_at t_place t_sign t_number t_state t_name t_compared t_open t_parentheses t_code_r t_waiting_r) H → va_D A (wd_X5_release cI cZ cR a_t a_t_text a_t_code a_t_waiting t_length t_codes t_waits t_fault t_faultPlace t_at t_place t_sign t_number t_state t_name t_compared t_open t_parentheses t_code_r t_waiting_r) → va_S A s.heap H locs → ∀ (ls : Array Slot), lv_has ls 4 [(0, .ref a_t), (1, .int x1), (2, .int x2)] → W p l e (headSpec wsX5_release ({ frames := 2, cells := 0, slots := 0, locals := 43 } : Room)).room s m args below meth c H locs 0 0 (MQ below (qv D cI cZ cR A (wd_X5_release cI cZ cR a_t a_t_text a_t_code a_t_waiting t_length (out.1) (out.2.2.1) t_fault t_faultPlace t_at t_place t_sign t_number t_state t_name t_compared (out.2.1) t_parentheses (out.2.2.2) t_waiting_r)) args s 0 0 A) (F0 m 2 ls []) := by
  obtain ⟨hx, hb, hml, hr, hown, hts, hlocks, hN⟩ := id X
  intro n
  induction n with
  | zero =>
    intro x2 t_codes t_open t_waits t_code_r hf
    cases (show (none : Option (Int32 × Int32 × Int32 × (Nat → Int32))) = some out from hf)
  | succ n ih =>
    intro x2 t_codes t_open t_waits t_code_r hf H locs hP hD hS ls hl
    rw [F_X5_release_2] at hf
    refine lv_iload_n hx hb dX5_release_2 rfl (lv_at hl 2 rfl) ?_
    refine lv_bipush (v := (40 : Int32)) hx hb dX5_release_3 (by decide) ?_
    refine lv_icmp_ge (tgt := 81) hx hb dX5_release_5 (by decide) (fun c1 => ?_) (fun c1 => ?_)
    · have hf := ipos c1 hf
      cases hf
      exact retv X hK hP hD hS dX5_release_81
    · have hf := ineg c1 hf
      refine lv_aload_n hx hb dX5_release_8 rfl (lv_at hl 0 rfl) ?_
      refine va_get (D := D) (ci := 5) (v := .int t_waits) (C := RX5) (T := TX5) (N := 17) hx hb hts in_X5_release_X5 hown hK hP 0 rfl rfl 5 (by decide) (hts (.fieldLink RX5 31 "DivisionHall$Reader" "waits" "I") (by decide +kernel)) (fun _ h9 => h9) rfl dX5_release_9 ?_
      refine lv_iconst (v := (1 : Int32)) hx hb dX5_release_12 (by decide) ?_
      refine lv_isub hx hb dX5_release_13 ?_
      refine lv_bipush (v := (40 : Int32)) hx hb dX5_release_14 (by decide) ?_
      obtain ⟨r2, hr3, hf⟩ := bnd hf
      refine wcalli (D := D) (cI := cI) (cZ := cZ) (cR := cR) (wc := (wd_X11_inside cI cZ cR)) (w' := (wd_X11_inside cI cZ cR)) [] hP hD hS hA rfl rfl rfl (rnSN (As := [.int (t_waits - (1 : Int32)), .int (40 : Int32)]) X [] hK hP hD rfl rfl (c_X11_inside l D cI cZ cR hr3) ⟨va_cnB (host := "DivisionHall") 2 hts ggX5_release_X11_inside rfl rfl rfl (hN.2.1 ("DivisionHall$Reader", 168, yX11_inside, "DivisionHall") (by decide +kernel)) (hts (.initialized RX11) (by decide +kernel)) (by decide +kernel) ⟨Nat.le_of_ble_eq_true rfl, Nat.le_of_ble_eq_true rfl⟩, hts (.static yX11_inside) (by decide +kernel), trivial⟩ rfl hl.1 rfl (Nat.le_of_ble_eq_true rfl) dX5_release_16) (fun H locs hP hD hS => ?_)
      have hP : va_P D vwCl (wd_X5_release cI cZ cR a_t a_t_text a_t_code a_t_waiting t_length t_codes t_waits t_fault t_faultPlace t_at t_place t_sign t_number t_state t_name t_compared t_open t_parentheses t_code_r t_waiting_r) H := hP
      have hD : va_D A (wd_X5_release cI cZ cR a_t a_t_text a_t_code a_t_waiting t_length t_codes t_waits t_fault t_faultPlace t_at t_place t_sign t_number t_state t_name t_compared t_open t_parentheses t_code_r t_waiting_r) := hD
      refine lv_if_eq (tgt := 81) hx hb dX5_release_19 (by decide) (fun c4 => ?_) (fun c4 => ?_)
      · have hf := ipos c4 hf
        cases hf
        exact retv X hK hP hD hS dX5_release_81
      · have hf := ineg c4 hf
        refine lv_aload_n hx hb dX5_release_22 rfl (lv_at hl 0 rfl) ?_
        refine va_get (D := D) (ci := 5) (v := .ref a_t_waiting) (C := RX5) (T := TX5) (N := 17) hx hb hts in_X5_release_X5 hown hK hP 0 rfl rfl 2 (by decide) (hts (.fieldLink RX5 18 "DivisionHall$Reader" "waiting" "[I") (by decide +kernel)) (fun _ h9 => h9) rfl dX5_release_23 ?_
        refine lv_aload_n hx hb dX5_release_26 rfl (lv_at hl 0 rfl) ?_
        refine va_get (D := D) (ci := 5) (v := .int t_waits) (C := RX5) (T := TX5) (N := 17) hx hb hts in_X5_release_X5 hown hK hP 0 rfl rfl 5 (by decide) (hts (.fieldLink RX5 31 "DivisionHall$Reader" "waits" "I") (by decide +kernel)) (fun _ h9 => h9) rfl dX5_release_27 ?_
        refine lv_iconst (v := (1 : Int32)) hx hb dX5_release_30 (by decide) ?_
        refine lv_isub hx hb dX5_release_31 ?_
        obtain ⟨hi5, hf⟩ := gin_s hf
        refine va_iald hx hb hK hP 2 0 rfl rfl hi5 dX5_release_32 ?_
        refine lv_istore_n (lv' := [(3, .int (t_waiting_r ((t_waits - (1 : Int32))).toNatClampNeg)), (0, .ref a_t), (1, .int x1), (2, .int x2)]) hx hb dX5_release_33 rfl hl (by decide) rfl (fun ls hl => ?_)
        refine lv_iload_n hx hb dX5_release_34 rfl (lv_at hl 0 rfl) ?_
        obtain ⟨r6, hr7, hf⟩ := bnd hf
        refine wcalli (D := D) (cI := cI) (cZ := cZ) (cR := cR) (wc := (wd_X8_rank cI cZ cR)) (w' := (wd_X8_rank cI cZ cR)) [] hP hD hS hA rfl rfl rfl (rnS (As := [.int (t_waiting_r ((t_waits - (1 : Int32))).toNatClampNeg)]) X [] hK hP hD rfl rfl (c_X8_rank l D cI cZ cR hr7) ⟨callB_of 1 hts ggX5_release_X8_rank rfl rfl rfl (hts (.initialized RX8) (by decide +kernel)) (hts (.methodLink RX5 159 yX8_rank) (by decide +kernel)) (by decide +kernel) ⟨Nat.le_of_ble_eq_true rfl, Nat.le_of_ble_eq_true rfl⟩, hts (.static yX8_rank) (by decide +kernel)⟩ rfl hl.1 rfl (Nat.le_of_ble_eq_true rfl) dX5_release_35) (fun H locs hP hD hS => ?_)
        have hP : va_P D vwCl (wd_X5_release cI cZ cR a_t a_t_text a_t_code a_t_waiting t_length t_codes t_waits t_fault t_faultPlace t_at t_place t_sign t_number t_state t_name t_compared t_open t_parentheses t_code_r t_waiting_r) H := hP
        have hD : va_D A (wd_X5_release cI cZ cR a_t a_t_text a_t_code a_t_waiting t_length t_codes t_waits t_fault t_faultPlace t_at t_place t_sign t_number t_state t_name t_compared t_open t_parentheses t_code_r t_waiting_r) := hD
        refine lv_iload_n hx hb dX5_release_38 rfl (lv_at hl 2 rfl) ?_
        refine lv_icmp_ge (tgt := 43) hx hb dX5_release_39 (by decide) (fun c8 => ?_) (fun c8 => ?_)
        · have hf := ipos c8 hf
          refine lv_aload_n hx hb dX5_release_43 rfl (lv_at hl 1 rfl) ?_
          refine lv_dup hx hb dX5_release_44 rfl ?_
          refine va_get (D := D) (ci := 5) (v := .int t_waits) (C := RX5) (T := TX5) (N := 17) hx hb hts in_X5_release_X5 hown hK hP 0 rfl rfl 5 (by decide) (hts (.fieldLink RX5 31 "DivisionHall$Reader" "waits" "I") (by decide +kernel)) (fun _ h9 => h9) rfl dX5_release_45 ?_
          refine lv_iconst (v := (1 : Int32)) hx hb dX5_release_48 (by decide) ?_
          refine lv_isub hx hb dX5_release_49 ?_
          refine va_put (D := D) (ci := 5) (v := .int (t_waits - (1 : Int32))) (ty := .int) (C := RX5) (T := TX5) (N := 17) hx hb hts in_X5_release_X5 tyX5 tyX5_ok nmX5 hown hK hP hD hS 0 rfl rfl 5 (by decide) (hts (.fieldLink RX5 31 "DivisionHall$Reader" "waits" "I") (by decide +kernel)) (fun _ h9 => h9) rfl (by decide +kernel) rfl rfl (Nat.le_of_ble_eq_true rfl) dX5_release_50 (fun H locs hP hD hS => ?_)
          have hP : va_P D vwCl (wd_X5_release cI cZ cR a_t a_t_text a_t_code a_t_waiting t_length t_codes (t_waits - (1 : Int32)) t_fault t_faultPlace t_at t_place t_sign t_number t_state t_name t_compared t_open t_parentheses t_code_r t_waiting_r) H := hP
          have hD : va_D A (wd_X5_release cI cZ cR a_t a_t_text a_t_code a_t_waiting t_length t_codes (t_waits - (1 : Int32)) t_fault t_faultPlace t_at t_place t_sign t_number t_state t_name t_compared t_open t_parentheses t_code_r t_waiting_r) := hD
          refine lv_iload_n hx hb dX5_release_53 rfl (lv_at hl 0 rfl) ?_
          refine lv_bipush (v := (14 : Int32)) hx hb dX5_release_54 (by decide) ?_
          refine lv_icmp_ne (tgt := 69) hx hb dX5_release_56 (by decide) (fun c9 => ?_) (fun c9 => ?_)
          · have hf := ineg c9 hf
            exact w_X5_release_69 X hK hA ih x2 (t_waiting_r ((t_waits - (1 : Int32))).toNatClampNeg) t_codes t_open (t_waits - (1 : Int32)) t_code_r hf _ _ hP hD hS _ (lv_sub hl [1, 2, 3, 0] rfl)
          · have hf := ipos c9 hf
            refine lv_aload_n hx hb dX5_release_59 rfl (lv_at hl 1 rfl) ?_
            refine lv_dup hx hb dX5_release_60 rfl ?_
            refine va_get (D := D) (ci := 5) (v := .int t_open) (C := RX5) (T := TX5) (N := 17) hx hb hts in_X5_release_X5 hown hK hP 0 rfl rfl 15 (by decide) (hts (.fieldLink RX5 44 "DivisionHall$Reader" "open" "I") (by decide +kernel)) (fun _ h9 => h9) rfl dX5_release_61 ?_
            refine lv_iconst (v := (1 : Int32)) hx hb dX5_release_64 (by decide) ?_
            refine lv_isub hx hb dX5_release_65 ?_
            refine va_put (D := D) (ci := 5) (v := .int (t_open - (1 : Int32))) (ty := .int) (C := RX5) (T := TX5) (N := 17) hx hb hts in_X5_release_X5 tyX5 tyX5_ok nmX5 hown hK hP hD hS 0 rfl rfl 15 (by decide) (hts (.fieldLink RX5 44 "DivisionHall$Reader" "open" "I") (by decide +kernel)) (fun _ h9 => h9) rfl (by decide +kernel) rfl rfl (Nat.le_of_ble_eq_true rfl) dX5_release_66 (fun H locs hP hD hS => ?_)
            have hP : va_P D vwCl (wd_X5_release cI cZ cR a_t a_t_text a_t_code a_t_waiting t_length t_codes (t_waits - (1 : Int32)) t_fault t_faultPlace t_at t_place t_sign t_number t_state t_name t_compared (t_open - (1 : Int32)) t_parentheses t_code_r t_waiting_r) H := hP
            have hD : va_D A (wd_X5_release cI cZ cR a_t a_t_text a_t_code a_t_waiting t_length t_codes (t_waits - (1 : Int32)) t_fault t_faultPlace t_at t_place t_sign t_number t_state t_name t_compared (t_open - (1 : Int32)) t_parentheses t_code_r t_waiting_r) := hD
            exact w_X5_release_69 X hK hA ih x2 (t_waiting_r ((t_waits - (1 : Int32))).toNatClampNeg) t_codes (t_open - (1 : Int32)) (t_waits - (1 : Int32)) t_code_r hf _ _ hP hD hS _ (lv_sub hl [1, 2, 3, 0] rfl)
        · have hf := ineg c8 hf
          cases hf
          exact retv X hK hP hD hS dX5_release_42
set_option maxHeartbeats 4000000 in
set_option maxRecDepth 100000 in
theorem c_X5_release (l : Launch) (D : va_G) (cI cZ cR : ClassId) {a_t a_t_text a_t_code a_t_waiting : Nat} {t_length : Int32} {t_codes : Int32} {t_waits : Int32} {t_fault : Int32} {t_faultPlace : Int32} {t_at : Int32} {t_place : Int32} {t_sign : Int32} {t_number : Int32} {t_state : Int32} {t_name : Int32} {t_compared : Int32} {t_open : Int32} {t_parentheses : Int32} {t_code_r : Nat → Int32} {t_waiting_r : Nat → Int32} {x1 : Int32} {sz : Nat} {out : Int32 × Int32 × Int32 × (Nat → Int32)} (hf : F_X5_release x1 t_codes t_open t_waits t_code_r t_waiting_r = some out) : CV l yX5_release wsX5_release ({ frames := 2, cells := 0, slots := 0, locals := 43 } : Room) D cI cZ cR [.ref a_t, .int x1] (wd_X5_release cI cZ cR a_t a_t_text a_t_code a_t_waiting t_length t_codes t_waits t_fault t_faultPlace t_at t_place t_sign t_number t_state t_name t_compared t_open t_parentheses t_code_r t_waiting_r) sz (wd_X5_release cI cZ cR a_t a_t_text a_t_code a_t_waiting t_length (out.1) (out.2.2.1) t_fault t_faultPlace t_at t_place t_sign t_number t_state t_name t_compared (out.2.1) t_parentheses (out.2.2.2) t_waiting_r) := by
  refine met_of (Qf := fun A => qv D cI cZ cR A (wd_X5_release cI cZ cR a_t a_t_text a_t_code a_t_waiting t_length (out.1) (out.2.2.1) t_fault t_faultPlace t_at t_place t_sign t_number t_state t_name t_compared (out.2.1) t_parentheses (out.2.2.2) t_waiting_r)) RX5 (by decide +kernel) rfl rfl (Nat.le_of_ble_eq_true rfl) ?_
  intro p e s m below meth c A X hK hA hP hD hS ls hl
  have hl : lv_has ls 4 [(0, .ref a_t), (1, .int x1)] := hl
  obtain ⟨hx, hb, hml, hr, hown, hts, hlocks, hN⟩ := id X
  unfold F_X5_release at hf
  refine lv_iconst (v := (0 : Int32)) hx hb dX5_release_0 (by decide) ?_
  refine lv_istore_n (lv' := [(2, .int (0 : Int32)), (0, .ref a_t), (1, .int x1)]) hx hb dX5_release_1 rfl hl (by decide) rfl (fun ls hl => ?_)
  exact w_X5_release_2 X hK hA _ (0 : Int32) t_codes t_open t_waits t_code_r hf _ _ hP hD hS _ (lv_sub hl [1, 2, 0] rfl)

abbrev wd_X5_stop (cI cZ cR : ClassId) (a_t a_t_text a_t_code a_t_waiting : Nat) (t_length t_codes t_waits t_fault t_faultPlace t_at t_place t_sign t_number t_state t_name t_compared t_open t_parentheses : Int32) : va_W := [(a_t, oB 5 [.ref a_t_text, .ref a_t_code, .ref a_t_waiting, .int t_length, .int t_codes, .int t_waits, .int t_fault, .int t_faultPlace, .int t_at, .int t_place, .int t_sign, .int t_number, .int t_state, .int t_name, .int t_compared, .int t_open, .int t_parentheses])]
def F_X5_stop (x1 : Int32) (t_fault : Int32) (t_faultPlace : Int32) (t_place : Int32) (t_state : Int32) : Option (Int32 × Int32 × Int32) := (some (x1, t_place, (8 : Int32)))
set_option maxRecDepth 100000 in
theorem in_X5_stop_X5 : ∀ w ∈ wsX50, w ∈ wsX5_stop := by decide +kernel
set_option maxHeartbeats 4000000 in
set_option maxRecDepth 100000 in
theorem c_X5_stop (l : Launch) (D : va_G) (cI cZ cR : ClassId) {a_t a_t_text a_t_code a_t_waiting : Nat} {t_length : Int32} {t_codes : Int32} {t_waits : Int32} {t_fault : Int32} {t_faultPlace : Int32} {t_at : Int32} {t_place : Int32} {t_sign : Int32} {t_number : Int32} {t_state : Int32} {t_name : Int32} {t_compared : Int32} {t_open : Int32} {t_parentheses : Int32} {x1 : Int32} {sz : Nat} {out : Int32 × Int32 × Int32} (hf : F_X5_stop x1 t_fault t_faultPlace t_place t_state = some out) : CV l yX5_stop wsX5_stop ({ frames := 0, cells := 0, slots := 0, locals := 0 } : Room) D cI cZ cR [.ref a_t, .int x1] (wd_X5_stop cI cZ cR a_t a_t_text a_t_code a_t_waiting t_length t_codes t_waits t_fault t_faultPlace t_at t_place t_sign t_number t_state t_name t_compared t_open t_parentheses) sz (wd_X5_stop cI cZ cR a_t a_t_text a_t_code a_t_waiting t_length t_codes t_waits (out.1) (out.2.1) t_at t_place t_sign t_number (out.2.2) t_name t_compared t_open t_parentheses) := by
  refine met_of (Qf := fun A => qv D cI cZ cR A (wd_X5_stop cI cZ cR a_t a_t_text a_t_code a_t_waiting t_length t_codes t_waits (out.1) (out.2.1) t_at t_place t_sign t_number (out.2.2) t_name t_compared t_open t_parentheses)) RX5 (by decide +kernel) rfl rfl (Nat.le_of_ble_eq_true rfl) ?_
  intro p e s m below meth c A X hK hA hP hD hS ls hl
  have hl : lv_has ls 2 [(0, .ref a_t), (1, .int x1)] := hl
  obtain ⟨hx, hb, hml, hr, hown, hts, hlocks, hN⟩ := id X
  unfold F_X5_stop at hf
  refine lv_aload_n hx hb dX5_stop_0 rfl (lv_at hl 0 rfl) ?_
  refine lv_iload_n hx hb dX5_stop_1 rfl (lv_at hl 1 rfl) ?_
  refine va_put (D := D) (ci := 5) (v := .int x1) (ty := .int) (C := RX5) (T := TX5) (N := 17) hx hb hts in_X5_stop_X5 tyX5 tyX5_ok nmX5 hown hK hP hD hS 0 rfl rfl 6 (by decide) (hts (.fieldLink RX5 34 "DivisionHall$Reader" "fault" "I") (by decide +kernel)) (fun _ h9 => h9) rfl (by decide +kernel) rfl rfl (Nat.le_of_ble_eq_true rfl) dX5_stop_2 (fun H locs hP hD hS => ?_)
  have hP : va_P D vwCl (wd_X5_stop cI cZ cR a_t a_t_text a_t_code a_t_waiting t_length t_codes t_waits x1 t_faultPlace t_at t_place t_sign t_number t_state t_name t_compared t_open t_parentheses) H := hP
  have hD : va_D A (wd_X5_stop cI cZ cR a_t a_t_text a_t_code a_t_waiting t_length t_codes t_waits x1 t_faultPlace t_at t_place t_sign t_number t_state t_name t_compared t_open t_parentheses) := hD
  refine lv_aload_n hx hb dX5_stop_5 rfl (lv_at hl 0 rfl) ?_
  refine lv_aload_n hx hb dX5_stop_6 rfl (lv_at hl 0 rfl) ?_
  refine va_get (D := D) (ci := 5) (v := .int t_place) (C := RX5) (T := TX5) (N := 17) hx hb hts in_X5_stop_X5 hown hK hP 0 rfl rfl 9 (by decide) (hts (.fieldLink RX5 59 "DivisionHall$Reader" "place" "I") (by decide +kernel)) (fun _ h9 => h9) rfl dX5_stop_7 ?_
  refine va_put (D := D) (ci := 5) (v := .int t_place) (ty := .int) (C := RX5) (T := TX5) (N := 17) hx hb hts in_X5_stop_X5 tyX5 tyX5_ok nmX5 hown hK hP hD hS 0 rfl rfl 7 (by decide) (hts (.fieldLink RX5 21 "DivisionHall$Reader" "faultPlace" "I") (by decide +kernel)) (fun _ h9 => h9) rfl (by decide +kernel) rfl rfl (Nat.le_of_ble_eq_true rfl) dX5_stop_10 (fun H locs hP hD hS => ?_)
  have hP : va_P D vwCl (wd_X5_stop cI cZ cR a_t a_t_text a_t_code a_t_waiting t_length t_codes t_waits x1 t_place t_at t_place t_sign t_number t_state t_name t_compared t_open t_parentheses) H := hP
  have hD : va_D A (wd_X5_stop cI cZ cR a_t a_t_text a_t_code a_t_waiting t_length t_codes t_waits x1 t_place t_at t_place t_sign t_number t_state t_name t_compared t_open t_parentheses) := hD
  refine lv_aload_n hx hb dX5_stop_13 rfl (lv_at hl 0 rfl) ?_
  refine lv_bipush (v := (8 : Int32)) hx hb dX5_stop_14 (by decide) ?_
  refine va_put (D := D) (ci := 5) (v := .int (8 : Int32)) (ty := .int) (C := RX5) (T := TX5) (N := 17) hx hb hts in_X5_stop_X5 tyX5 tyX5_ok nmX5 hown hK hP hD hS 0 rfl rfl 12 (by decide) (hts (.fieldLink RX5 50 "DivisionHall$Reader" "state" "I") (by decide +kernel)) (fun _ h9 => h9) rfl (by decide +kernel) rfl rfl (Nat.le_of_ble_eq_true rfl) dX5_stop_16 (fun H locs hP hD hS => ?_)
  have hP : va_P D vwCl (wd_X5_stop cI cZ cR a_t a_t_text a_t_code a_t_waiting t_length t_codes t_waits x1 t_place t_at t_place t_sign t_number (8 : Int32) t_name t_compared t_open t_parentheses) H := hP
  have hD : va_D A (wd_X5_stop cI cZ cR a_t a_t_text a_t_code a_t_waiting t_length t_codes t_waits x1 t_place t_at t_place t_sign t_number (8 : Int32) t_name t_compared t_open t_parentheses) := hD
  cases hf
  exact retv X hK hP hD hS dX5_stop_19

abbrev wd_X5_takeBehindClause (cI cZ cR : ClassId) (a_t a_t_text a_t_code a_t_waiting : Nat) (t_length t_codes t_waits t_fault t_faultPlace t_at t_place t_sign t_number t_state t_name t_compared t_open t_parentheses : Int32) (t_code_r : Nat → Int32) (t_waiting_r : Nat → Int32) : va_W := [(a_t, oB 5 [.ref a_t_text, .ref a_t_code, .ref a_t_waiting, .int t_length, .int t_codes, .int t_waits, .int t_fault, .int t_faultPlace, .int t_at, .int t_place, .int t_sign, .int t_number, .int t_state, .int t_name, .int t_compared, .int t_open, .int t_parentheses]), (a_t_code, aI cI 400 t_code_r), (a_t_waiting, aI cI 40 t_waiting_r)]
def F_X5_takeBehindClause_18 (t_place : Int32) (t_sign : Int32) (t_codes : Int32) (t_fault : Int32) (t_faultPlace : Int32) (t_open : Int32) (t_parentheses : Int32) (t_state : Int32) (t_waits : Int32) (t_code_r : Nat → Int32) (t_waiting_r : Nat → Int32) : Option (Int32 × Int32 × Int32 × Int32 × Int32 × Int32 × Int32 × (Nat → Int32) × (Nat → Int32)) := ((F_X8_rank t_sign).bind (fun r15 => ((F_X5_release r15 t_codes t_open t_waits t_code_r t_waiting_r).bind (fun r17 => ((F_X5_push t_sign (r17.2.2.1) t_waiting_r).bind (fun r19 => (some ((r17.1), t_fault, t_faultPlace, (r17.2.1), t_parentheses, (0 : Int32), (r19.1), (r17.2.2.2), (r19.2)))))))))
def F_X5_takeBehindClause_99 (t_place : Int32) (t_sign : Int32) (t_codes : Int32) (t_fault : Int32) (t_faultPlace : Int32) (t_open : Int32) (t_parentheses : Int32) (t_state : Int32) (t_waits : Int32) (t_code_r : Nat → Int32) (t_waiting_r : Nat → Int32) : Option (Int32 × Int32 × Int32 × Int32 × Int32 × Int32 × Int32 × (Nat → Int32) × (Nat → Int32)) := (if t_sign = (2 : Int32) then (if t_parentheses = 0 then ((F_X5_release (1 : Int32) t_codes t_open t_waits t_code_r t_waiting_r).bind (fun r13 => (some ((r13.1), t_fault, t_faultPlace, (r13.2.1), t_parentheses, (6 : Int32), (r13.2.2.1), (r13.2.2.2), t_waiting_r)))) else ((F_X5_stop (1 : Int32) t_fault t_faultPlace t_place t_state).bind (fun r11 => (some (t_codes, (r11.1), (r11.2.1), t_open, t_parentheses, (r11.2.2), t_waits, t_code_r, t_waiting_r))))) else ((F_X5_stop (1 : Int32) t_fault t_faultPlace t_place t_state).bind (fun r8 => (some (t_codes, (r8.1), (r8.2.1), t_open, t_parentheses, (r8.2.2), t_waits, t_code_r, t_waiting_r)))))
def F_X5_takeBehindClause (t_codes : Int32) (t_fault : Int32) (t_faultPlace : Int32) (t_open : Int32) (t_parentheses : Int32) (t_place : Int32) (t_sign : Int32) (t_state : Int32) (t_waits : Int32) (t_code_r : Nat → Int32) (t_waiting_r : Nat → Int32) : Option (Int32 × Int32 × Int32 × Int32 × Int32 × Int32 × Int32 × (Nat → Int32) × (Nat → Int32)) := (if t_sign = (21 : Int32) then (F_X5_takeBehindClause_18 t_place t_sign t_codes t_fault t_faultPlace t_open t_parentheses t_state t_waits t_code_r t_waiting_r) else (if t_sign = (22 : Int32) then (F_X5_takeBehindClause_18 t_place t_sign t_codes t_fault t_faultPlace t_open t_parentheses t_state t_waits t_code_r t_waiting_r) else (if t_sign = (4 : Int32) then (if t_parentheses ≤ 0 then (F_X5_takeBehindClause_99 t_place t_sign t_codes t_fault t_faultPlace t_open t_parentheses t_state t_waits t_code_r t_waiting_r) else ((F_X5_release (1 : Int32) t_codes t_open t_waits t_code_r t_waiting_r).bind (fun r5 => (some ((r5.1), t_fault, t_faultPlace, ((r5.2.1) - (1 : Int32)), (t_parentheses - (1 : Int32)), (5 : Int32), ((r5.2.2.1) - (1 : Int32)), (r5.2.2.2), t_waiting_r))))) else (F_X5_takeBehindClause_99 t_place t_sign t_codes t_fault t_faultPlace t_open t_parentheses t_state t_waits t_code_r t_waiting_r))))
set_option maxRecDepth 100000 in
theorem in_X5_takeBehindClause_X5 : ∀ w ∈ wsX50, w ∈ wsX5_takeBehindClause := by decide +kernel
set_option maxHeartbeats 4000000 in
set_option maxRecDepth 100000 in
theorem w_X5_takeBehindClause_18 {p : Program} {l : Launch} {e : Env} {s : State} {m : MethodId} {args : Array Value} {below : List Frame} {meth : Method} {c : Code} {D : va_G} {cI cZ cR : ClassId} {A : Nat → Prop} {a_t a_t_text a_t_code a_t_waiting : Nat} {t_length : Int32} {t_at : Int32} {t_place : Int32} {t_sign : Int32} {t_number : Int32} {t_name : Int32} {t_compared : Int32} {out : Int32 × Int32 × Int32 × Int32 × Int32 × Int32 × Int32 × (Nat → Int32) × (Nat → Int32)} (X : cx p s m args meth c cX5_takeBehindClause 1 none RX5 wsX5_takeBehindClause) (hK : va_K D vwCl (ty3 cI cZ cR) s) (hA : ∀ q, s.heap.size ≤ q → A q) : ∀ (t_codes : Int32) (t_fault : Int32) (t_faultPlace : Int32) (t_open : Int32) (t_parentheses : Int32) (t_state : Int32) (t_waits : Int32) (t_code_r : Nat → Int32) (t_waiting_r : Nat → Int32), F_X5_takeBehindClause_18 t_place t_sign t_codes t_fault t_faultPlace t_open t_parentheses t_state t_waits t_code_r t_waiting_r = some out → ∀ (H : Heap) (locs : List Loc), va_P D vwCl (wd_X5_takeBehindClause cI cZ cR a_t a_t_text a_t_code a_t_waiting t_length t_codes t_waits t_fault t_faultPlace t_at t_place t_sign t_number t_state t_name t_compared t_open t_parentheses t_code_r t_waiting_r) H → va_D A (wd_X5_takeBehindClause cI cZ cR a_t a_t_text a_t_code a_t_waiting t_length t_codes t_waits t_fault t_faultPlace t_at t_place t_sign t_number t_state t_name t_compared t_open t_parentheses t_code_r t_waiting_r) → va_S A s.heap H locs → ∀ (ls : Array Slot), lv_has ls 1 [(0, .ref a_t)] → W p l e (headSpec wsX5_takeBehindClause ({ frames := 3, cells := 0, slots := 0, locals := 66 } : Room)).room s m args below meth c H locs 0 0 (MQ below (qv D cI cZ cR A (wd_X5_takeBehindClause cI cZ cR a_t a_t_text a_t_code a_t_waiting t_length (out.1) (out.2.2.2.2.2.2.1) (out.2.1) (out.2.2.1) t_at t_place t_sign t_number (out.2.2.2.2.2.1) t_name t_compared (out.2.2.2.1) (out.2.2.2.2.1) (out.2.2.2.2.2.2.2.1) (out.2.2.2.2.2.2.2.2))) args s 0 0 A) (F0 m 18 ls []) := by
  obtain ⟨hx, hb, hml, hr, hown, hts, hlocks, hN⟩ := id X
  intro t_codes t_fault t_faultPlace t_open t_parentheses t_state t_waits t_code_r t_waiting_r hf H locs hP hD hS ls hl
  unfold F_X5_takeBehindClause_18 at hf
  refine lv_aload_n hx hb dX5_takeBehindClause_18 rfl (lv_at hl 0 rfl) ?_
  refine lv_aload_n hx hb dX5_takeBehindClause_19 rfl (lv_at hl 0 rfl) ?_
  refine va_get (D := D) (ci := 5) (v := .int t_sign) (C := RX5) (T := TX5) (N := 17) hx hb hts in_X5_takeBehindClause_X5 hown hK hP 0 rfl rfl 10 (by decide) (hts (.fieldLink RX5 64 "DivisionHall$Reader" "sign" "I") (by decide +kernel)) (fun _ h9 => h9) rfl dX5_takeBehindClause_20 ?_
  obtain ⟨r15, hr16, hf⟩ := bnd hf
  refine wcalli (D := D) (cI := cI) (cZ := cZ) (cR := cR) (wc := (wd_X8_rank cI cZ cR)) (w' := (wd_X8_rank cI cZ cR)) [] hP hD hS hA rfl rfl rfl (rnS (As := [.int t_sign]) X [] hK hP hD rfl rfl (c_X8_rank l D cI cZ cR hr16) ⟨callB_of 1 hts ggX5_takeBehindClause_X8_rank rfl rfl rfl (hts (.initialized RX8) (by decide +kernel)) (hts (.methodLink RX5 159 yX8_rank) (by decide +kernel)) (by decide +kernel) ⟨Nat.le_of_ble_eq_true rfl, Nat.le_of_ble_eq_true rfl⟩, hts (.static yX8_rank) (by decide +kernel)⟩ rfl hl.1 rfl (Nat.le_of_ble_eq_true rfl) dX5_takeBehindClause_23) (fun H locs hP hD hS => ?_)
  have hP : va_P D vwCl (wd_X5_takeBehindClause cI cZ cR a_t a_t_text a_t_code a_t_waiting t_length t_codes t_waits t_fault t_faultPlace t_at t_place t_sign t_number t_state t_name t_compared t_open t_parentheses t_code_r t_waiting_r) H := hP
  have hD : va_D A (wd_X5_takeBehindClause cI cZ cR a_t a_t_text a_t_code a_t_waiting t_length t_codes t_waits t_fault t_faultPlace t_at t_place t_sign t_number t_state t_name t_compared t_open t_parentheses t_code_r t_waiting_r) := hD
  obtain ⟨r17, hr18, hf⟩ := bnd hf
  refine wcallv (D := D) (cI := cI) (cZ := cZ) (cR := cR) (wc := (wd_X5_release cI cZ cR a_t a_t_text a_t_code a_t_waiting t_length t_codes t_waits t_fault t_faultPlace t_at t_place t_sign t_number t_state t_name t_compared t_open t_parentheses t_code_r t_waiting_r)) (w' := (wd_X5_release cI cZ cR a_t a_t_text a_t_code a_t_waiting t_length (r17.1) (r17.2.2.1) t_fault t_faultPlace t_at t_place t_sign t_number t_state t_name t_compared (r17.2.1) t_parentheses (r17.2.2.2) t_waiting_r)) [0, 1, 2] hP hD hS hA rfl rfl rfl (rnV (As := [.int r15]) (ci := 5) (q0 := 0) X [0, 1, 2] hK hP hD rfl rfl rfl rfl (c_X5_release l D cI cZ cR hr18) (cwV 1 hts gX5_takeBehindClause_X5_release rfl rfl rfl (by decide +kernel) ⟨Nat.le_of_ble_eq_true rfl, Nat.le_of_ble_eq_true rfl⟩) rfl hl.1 rfl (Nat.le_of_ble_eq_true rfl) dX5_takeBehindClause_26) (fun H locs hP hD hS => ?_)
  have hP : va_P D vwCl (wd_X5_takeBehindClause cI cZ cR a_t a_t_text a_t_code a_t_waiting t_length (r17.1) (r17.2.2.1) t_fault t_faultPlace t_at t_place t_sign t_number t_state t_name t_compared (r17.2.1) t_parentheses (r17.2.2.2) t_waiting_r) H := hP
  have hD : va_D A (wd_X5_takeBehindClause cI cZ cR a_t a_t_text a_t_code a_t_waiting t_length (r17.1) (r17.2.2.1) t_fault t_faultPlace t_at t_place t_sign t_number t_state t_name t_compared (r17.2.1) t_parentheses (r17.2.2.2) t_waiting_r) := hD
  refine lv_aload_n hx hb dX5_takeBehindClause_29 rfl (lv_at hl 0 rfl) ?_
  obtain ⟨r19, hr20, hf⟩ := bnd hf
  refine wcallv (D := D) (cI := cI) (cZ := cZ) (cR := cR) (wc := (wd_X5_push cI cZ cR a_t a_t_text a_t_code a_t_waiting t_length (r17.1) (r17.2.2.1) t_fault t_faultPlace t_at t_place t_sign t_number t_state t_name t_compared (r17.2.1) t_parentheses t_waiting_r)) (w' := (wd_X5_push cI cZ cR a_t a_t_text a_t_code a_t_waiting t_length (r17.1) (r19.1) t_fault t_faultPlace t_at t_place t_sign t_number t_state t_name t_compared (r17.2.1) t_parentheses (r19.2))) [0, 2] hP hD hS hA rfl rfl rfl (rnV (As := []) (ci := 5) (q0 := 0) X [0, 2] hK hP hD rfl rfl rfl rfl (c_X5_push l D cI cZ cR hr20) (cwV 0 hts gX5_takeBehindClause_X5_push rfl rfl rfl (by decide +kernel) ⟨Nat.le_of_ble_eq_true rfl, Nat.le_of_ble_eq_true rfl⟩) rfl hl.1 rfl (Nat.le_of_ble_eq_true rfl) dX5_takeBehindClause_30) (fun H locs hP hD hS => ?_)
  have hP : va_P D vwCl (wd_X5_takeBehindClause cI cZ cR a_t a_t_text a_t_code a_t_waiting t_length (r17.1) (r19.1) t_fault t_faultPlace t_at t_place t_sign t_number t_state t_name t_compared (r17.2.1) t_parentheses (r17.2.2.2) (r19.2)) H := hP
  have hD : va_D A (wd_X5_takeBehindClause cI cZ cR a_t a_t_text a_t_code a_t_waiting t_length (r17.1) (r19.1) t_fault t_faultPlace t_at t_place t_sign t_number t_state t_name t_compared (r17.2.1) t_parentheses (r17.2.2.2) (r19.2)) := hD
  refine lv_aload_n hx hb dX5_takeBehindClause_33 rfl (lv_at hl 0 rfl) ?_
  refine lv_iconst (v := (0 : Int32)) hx hb dX5_takeBehindClause_34 (by decide) ?_
  refine va_put (D := D) (ci := 5) (v := .int (0 : Int32)) (ty := .int) (C := RX5) (T := TX5) (N := 17) hx hb hts in_X5_takeBehindClause_X5 tyX5 tyX5_ok nmX5 hown hK hP hD hS 0 rfl rfl 12 (by decide) (hts (.fieldLink RX5 50 "DivisionHall$Reader" "state" "I") (by decide +kernel)) (fun _ h9 => h9) rfl (by decide +kernel) rfl rfl (Nat.le_of_ble_eq_true rfl) dX5_takeBehindClause_35 (fun H locs hP hD hS => ?_)
  have hP : va_P D vwCl (wd_X5_takeBehindClause cI cZ cR a_t a_t_text a_t_code a_t_waiting t_length (r17.1) (r19.1) t_fault t_faultPlace t_at t_place t_sign t_number (0 : Int32) t_name t_compared (r17.2.1) t_parentheses (r17.2.2.2) (r19.2)) H := hP
  have hD : va_D A (wd_X5_takeBehindClause cI cZ cR a_t a_t_text a_t_code a_t_waiting t_length (r17.1) (r19.1) t_fault t_faultPlace t_at t_place t_sign t_number (0 : Int32) t_name t_compared (r17.2.1) t_parentheses (r17.2.2.2) (r19.2)) := hD
  refine lv_goto (tgt := 133) hx hb dX5_takeBehindClause_38 (by decide) ?_
  cases hf
  exact retv X hK hP hD hS dX5_takeBehindClause_133
set_option maxHeartbeats 4000000 in
set_option maxRecDepth 100000 in
theorem w_X5_takeBehindClause_99 {p : Program} {l : Launch} {e : Env} {s : State} {m : MethodId} {args : Array Value} {below : List Frame} {meth : Method} {c : Code} {D : va_G} {cI cZ cR : ClassId} {A : Nat → Prop} {a_t a_t_text a_t_code a_t_waiting : Nat} {t_length : Int32} {t_at : Int32} {t_place : Int32} {t_sign : Int32} {t_number : Int32} {t_name : Int32} {t_compared : Int32} {out : Int32 × Int32 × Int32 × Int32 × Int32 × Int32 × Int32 × (Nat → Int32) × (Nat → Int32)} (X : cx p s m args meth c cX5_takeBehindClause 1 none RX5 wsX5_takeBehindClause) (hK : va_K D vwCl (ty3 cI cZ cR) s) (hA : ∀ q, s.heap.size ≤ q → A q) : ∀ (t_codes : Int32) (t_fault : Int32) (t_faultPlace : Int32) (t_open : Int32) (t_parentheses : Int32) (t_state : Int32) (t_waits : Int32) (t_code_r : Nat → Int32) (t_waiting_r : Nat → Int32), F_X5_takeBehindClause_99 t_place t_sign t_codes t_fault t_faultPlace t_open t_parentheses t_state t_waits t_code_r t_waiting_r = some out → ∀ (H : Heap) (locs : List Loc), va_P D vwCl (wd_X5_takeBehindClause cI cZ cR a_t a_t_text a_t_code a_t_waiting t_length t_codes t_waits t_fault t_faultPlace t_at t_place t_sign t_number t_state t_name t_compared t_open t_parentheses t_code_r t_waiting_r) H → va_D A (wd_X5_takeBehindClause cI cZ cR a_t a_t_text a_t_code a_t_waiting t_length t_codes t_waits t_fault t_faultPlace t_at t_place t_sign t_number t_state t_name t_compared t_open t_parentheses t_code_r t_waiting_r) → va_S A s.heap H locs → ∀ (ls : Array Slot), lv_has ls 1 [(0, .ref a_t)] → W p l e (headSpec wsX5_takeBehindClause ({ frames := 3, cells := 0, slots := 0, locals := 66 } : Room)).room s m args below meth c H locs 0 0 (MQ below (qv D cI cZ cR A (wd_X5_takeBehindClause cI cZ cR a_t a_t_text a_t_code a_t_waiting t_length (out.1) (out.2.2.2.2.2.2.1) (out.2.1) (out.2.2.1) t_at t_place t_sign t_number (out.2.2.2.2.2.1) t_name t_compared (out.2.2.2.1) (out.2.2.2.2.1) (out.2.2.2.2.2.2.2.1) (out.2.2.2.2.2.2.2.2))) args s 0 0 A) (F0 m 99 ls []) := by
  obtain ⟨hx, hb, hml, hr, hown, hts, hlocks, hN⟩ := id X
  intro t_codes t_fault t_faultPlace t_open t_parentheses t_state t_waits t_code_r t_waiting_r hf H locs hP hD hS ls hl
  unfold F_X5_takeBehindClause_99 at hf
  refine lv_aload_n hx hb dX5_takeBehindClause_99 rfl (lv_at hl 0 rfl) ?_
  refine va_get (D := D) (ci := 5) (v := .int t_sign) (C := RX5) (T := TX5) (N := 17) hx hb hts in_X5_takeBehindClause_X5 hown hK hP 0 rfl rfl 10 (by decide) (hts (.fieldLink RX5 64 "DivisionHall$Reader" "sign" "I") (by decide +kernel)) (fun _ h9 => h9) rfl dX5_takeBehindClause_100 ?_
  refine lv_iconst (v := (2 : Int32)) hx hb dX5_takeBehindClause_103 (by decide) ?_
  refine lv_icmp_ne (tgt := 128) hx hb dX5_takeBehindClause_104 (by decide) (fun c7 => ?_) (fun c7 => ?_)
  · have hf := ineg c7 hf
    refine lv_aload_n hx hb dX5_takeBehindClause_128 rfl (lv_at hl 0 rfl) ?_
    refine lv_iconst (v := (1 : Int32)) hx hb dX5_takeBehindClause_129 (by decide) ?_
    obtain ⟨r8, hr9, hf⟩ := bnd hf
    refine wcallv (D := D) (cI := cI) (cZ := cZ) (cR := cR) (wc := (wd_X5_stop cI cZ cR a_t a_t_text a_t_code a_t_waiting t_length t_codes t_waits t_fault t_faultPlace t_at t_place t_sign t_number t_state t_name t_compared t_open t_parentheses)) (w' := (wd_X5_stop cI cZ cR a_t a_t_text a_t_code a_t_waiting t_length t_codes t_waits (r8.1) (r8.2.1) t_at t_place t_sign t_number (r8.2.2) t_name t_compared t_open t_parentheses)) [0] hP hD hS hA rfl rfl rfl (rnV (As := [.int (1 : Int32)]) (ci := 5) (q0 := 0) X [0] hK hP hD rfl rfl rfl rfl (c_X5_stop l D cI cZ cR hr9) (cwV 1 hts gX5_takeBehindClause_X5_stop rfl rfl rfl (by decide +kernel) ⟨Nat.le_of_ble_eq_true rfl, Nat.le_of_ble_eq_true rfl⟩) rfl hl.1 rfl (Nat.le_of_ble_eq_true rfl) dX5_takeBehindClause_130) (fun H locs hP hD hS => ?_)
    have hP : va_P D vwCl (wd_X5_takeBehindClause cI cZ cR a_t a_t_text a_t_code a_t_waiting t_length t_codes t_waits (r8.1) (r8.2.1) t_at t_place t_sign t_number (r8.2.2) t_name t_compared t_open t_parentheses t_code_r t_waiting_r) H := hP
    have hD : va_D A (wd_X5_takeBehindClause cI cZ cR a_t a_t_text a_t_code a_t_waiting t_length t_codes t_waits (r8.1) (r8.2.1) t_at t_place t_sign t_number (r8.2.2) t_name t_compared t_open t_parentheses t_code_r t_waiting_r) := hD
    cases hf
    exact retv X hK hP hD hS dX5_takeBehindClause_133
  · have hf := ipos c7 hf
    refine lv_aload_n hx hb dX5_takeBehindClause_107 rfl (lv_at hl 0 rfl) ?_
    refine va_get (D := D) (ci := 5) (v := .int t_parentheses) (C := RX5) (T := TX5) (N := 17) hx hb hts in_X5_takeBehindClause_X5 hown hK hP 0 rfl rfl 16 (by decide) (hts (.fieldLink RX5 47 "DivisionHall$Reader" "parentheses" "I") (by decide +kernel)) (fun _ h9 => h9) rfl dX5_takeBehindClause_108 ?_
    refine lv_if_ne (tgt := 128) hx hb dX5_takeBehindClause_111 (by decide) (fun c10 => ?_) (fun c10 => ?_)
    · have hf := ineg c10 hf
      refine lv_aload_n hx hb dX5_takeBehindClause_128 rfl (lv_at hl 0 rfl) ?_
      refine lv_iconst (v := (1 : Int32)) hx hb dX5_takeBehindClause_129 (by decide) ?_
      obtain ⟨r11, hr12, hf⟩ := bnd hf
      refine wcallv (D := D) (cI := cI) (cZ := cZ) (cR := cR) (wc := (wd_X5_stop cI cZ cR a_t a_t_text a_t_code a_t_waiting t_length t_codes t_waits t_fault t_faultPlace t_at t_place t_sign t_number t_state t_name t_compared t_open t_parentheses)) (w' := (wd_X5_stop cI cZ cR a_t a_t_text a_t_code a_t_waiting t_length t_codes t_waits (r11.1) (r11.2.1) t_at t_place t_sign t_number (r11.2.2) t_name t_compared t_open t_parentheses)) [0] hP hD hS hA rfl rfl rfl (rnV (As := [.int (1 : Int32)]) (ci := 5) (q0 := 0) X [0] hK hP hD rfl rfl rfl rfl (c_X5_stop l D cI cZ cR hr12) (cwV 1 hts gX5_takeBehindClause_X5_stop rfl rfl rfl (by decide +kernel) ⟨Nat.le_of_ble_eq_true rfl, Nat.le_of_ble_eq_true rfl⟩) rfl hl.1 rfl (Nat.le_of_ble_eq_true rfl) dX5_takeBehindClause_130) (fun H locs hP hD hS => ?_)
      have hP : va_P D vwCl (wd_X5_takeBehindClause cI cZ cR a_t a_t_text a_t_code a_t_waiting t_length t_codes t_waits (r11.1) (r11.2.1) t_at t_place t_sign t_number (r11.2.2) t_name t_compared t_open t_parentheses t_code_r t_waiting_r) H := hP
      have hD : va_D A (wd_X5_takeBehindClause cI cZ cR a_t a_t_text a_t_code a_t_waiting t_length t_codes t_waits (r11.1) (r11.2.1) t_at t_place t_sign t_number (r11.2.2) t_name t_compared t_open t_parentheses t_code_r t_waiting_r) := hD
      cases hf
      exact retv X hK hP hD hS dX5_takeBehindClause_133
    · have hf := ipos c10 hf
      refine lv_aload_n hx hb dX5_takeBehindClause_114 rfl (lv_at hl 0 rfl) ?_
      refine lv_iconst (v := (1 : Int32)) hx hb dX5_takeBehindClause_115 (by decide) ?_
      obtain ⟨r13, hr14, hf⟩ := bnd hf
      refine wcallv (D := D) (cI := cI) (cZ := cZ) (cR := cR) (wc := (wd_X5_release cI cZ cR a_t a_t_text a_t_code a_t_waiting t_length t_codes t_waits t_fault t_faultPlace t_at t_place t_sign t_number t_state t_name t_compared t_open t_parentheses t_code_r t_waiting_r)) (w' := (wd_X5_release cI cZ cR a_t a_t_text a_t_code a_t_waiting t_length (r13.1) (r13.2.2.1) t_fault t_faultPlace t_at t_place t_sign t_number t_state t_name t_compared (r13.2.1) t_parentheses (r13.2.2.2) t_waiting_r)) [0, 1, 2] hP hD hS hA rfl rfl rfl (rnV (As := [.int (1 : Int32)]) (ci := 5) (q0 := 0) X [0, 1, 2] hK hP hD rfl rfl rfl rfl (c_X5_release l D cI cZ cR hr14) (cwV 1 hts gX5_takeBehindClause_X5_release rfl rfl rfl (by decide +kernel) ⟨Nat.le_of_ble_eq_true rfl, Nat.le_of_ble_eq_true rfl⟩) rfl hl.1 rfl (Nat.le_of_ble_eq_true rfl) dX5_takeBehindClause_116) (fun H locs hP hD hS => ?_)
      have hP : va_P D vwCl (wd_X5_takeBehindClause cI cZ cR a_t a_t_text a_t_code a_t_waiting t_length (r13.1) (r13.2.2.1) t_fault t_faultPlace t_at t_place t_sign t_number t_state t_name t_compared (r13.2.1) t_parentheses (r13.2.2.2) t_waiting_r) H := hP
      have hD : va_D A (wd_X5_takeBehindClause cI cZ cR a_t a_t_text a_t_code a_t_waiting t_length (r13.1) (r13.2.2.1) t_fault t_faultPlace t_at t_place t_sign t_number t_state t_name t_compared (r13.2.1) t_parentheses (r13.2.2.2) t_waiting_r) := hD
      refine lv_aload_n hx hb dX5_takeBehindClause_119 rfl (lv_at hl 0 rfl) ?_
      refine lv_bipush (v := (6 : Int32)) hx hb dX5_takeBehindClause_120 (by decide) ?_
      refine va_put (D := D) (ci := 5) (v := .int (6 : Int32)) (ty := .int) (C := RX5) (T := TX5) (N := 17) hx hb hts in_X5_takeBehindClause_X5 tyX5 tyX5_ok nmX5 hown hK hP hD hS 0 rfl rfl 12 (by decide) (hts (.fieldLink RX5 50 "DivisionHall$Reader" "state" "I") (by decide +kernel)) (fun _ h9 => h9) rfl (by decide +kernel) rfl rfl (Nat.le_of_ble_eq_true rfl) dX5_takeBehindClause_122 (fun H locs hP hD hS => ?_)
      have hP : va_P D vwCl (wd_X5_takeBehindClause cI cZ cR a_t a_t_text a_t_code a_t_waiting t_length (r13.1) (r13.2.2.1) t_fault t_faultPlace t_at t_place t_sign t_number (6 : Int32) t_name t_compared (r13.2.1) t_parentheses (r13.2.2.2) t_waiting_r) H := hP
      have hD : va_D A (wd_X5_takeBehindClause cI cZ cR a_t a_t_text a_t_code a_t_waiting t_length (r13.1) (r13.2.2.1) t_fault t_faultPlace t_at t_place t_sign t_number (6 : Int32) t_name t_compared (r13.2.1) t_parentheses (r13.2.2.2) t_waiting_r) := hD
      refine lv_goto (tgt := 133) hx hb dX5_takeBehindClause_125 (by decide) ?_
      cases hf
      exact retv X hK hP hD hS dX5_takeBehindClause_133
set_option maxHeartbeats 4000000 in
set_option maxRecDepth 100000 in
theorem c_X5_takeBehindClause (l : Launch) (D : va_G) (cI cZ cR : ClassId) {a_t a_t_text a_t_code a_t_waiting : Nat} {t_length : Int32} {t_codes : Int32} {t_waits : Int32} {t_fault : Int32} {t_faultPlace : Int32} {t_at : Int32} {t_place : Int32} {t_sign : Int32} {t_number : Int32} {t_state : Int32} {t_name : Int32} {t_compared : Int32} {t_open : Int32} {t_parentheses : Int32} {t_code_r : Nat → Int32} {t_waiting_r : Nat → Int32} {sz : Nat} {out : Int32 × Int32 × Int32 × Int32 × Int32 × Int32 × Int32 × (Nat → Int32) × (Nat → Int32)} (hf : F_X5_takeBehindClause t_codes t_fault t_faultPlace t_open t_parentheses t_place t_sign t_state t_waits t_code_r t_waiting_r = some out) : CV l yX5_takeBehindClause wsX5_takeBehindClause ({ frames := 3, cells := 0, slots := 0, locals := 66 } : Room) D cI cZ cR [.ref a_t] (wd_X5_takeBehindClause cI cZ cR a_t a_t_text a_t_code a_t_waiting t_length t_codes t_waits t_fault t_faultPlace t_at t_place t_sign t_number t_state t_name t_compared t_open t_parentheses t_code_r t_waiting_r) sz (wd_X5_takeBehindClause cI cZ cR a_t a_t_text a_t_code a_t_waiting t_length (out.1) (out.2.2.2.2.2.2.1) (out.2.1) (out.2.2.1) t_at t_place t_sign t_number (out.2.2.2.2.2.1) t_name t_compared (out.2.2.2.1) (out.2.2.2.2.1) (out.2.2.2.2.2.2.2.1) (out.2.2.2.2.2.2.2.2)) := by
  refine met_of (Qf := fun A => qv D cI cZ cR A (wd_X5_takeBehindClause cI cZ cR a_t a_t_text a_t_code a_t_waiting t_length (out.1) (out.2.2.2.2.2.2.1) (out.2.1) (out.2.2.1) t_at t_place t_sign t_number (out.2.2.2.2.2.1) t_name t_compared (out.2.2.2.1) (out.2.2.2.2.1) (out.2.2.2.2.2.2.2.1) (out.2.2.2.2.2.2.2.2))) RX5 (by decide +kernel) rfl rfl (Nat.le_of_ble_eq_true rfl) ?_
  intro p e s m below meth c A X hK hA hP hD hS ls hl
  have hl : lv_has ls 1 [(0, .ref a_t)] := hl
  obtain ⟨hx, hb, hml, hr, hown, hts, hlocks, hN⟩ := id X
  unfold F_X5_takeBehindClause at hf
  refine lv_aload_n hx hb dX5_takeBehindClause_0 rfl (lv_at hl 0 rfl) ?_
  refine va_get (D := D) (ci := 5) (v := .int t_sign) (C := RX5) (T := TX5) (N := 17) hx hb hts in_X5_takeBehindClause_X5 hown hK hP 0 rfl rfl 10 (by decide) (hts (.fieldLink RX5 64 "DivisionHall$Reader" "sign" "I") (by decide +kernel)) (fun _ h9 => h9) rfl dX5_takeBehindClause_1 ?_
  refine lv_bipush (v := (21 : Int32)) hx hb dX5_takeBehindClause_4 (by decide) ?_
  refine lv_icmp_eq (tgt := 18) hx hb dX5_takeBehindClause_6 (by decide) (fun c1 => ?_) (fun c1 => ?_)
  · have hf := ipos c1 hf
    exact w_X5_takeBehindClause_18 X hK hA t_codes t_fault t_faultPlace t_open t_parentheses t_state t_waits t_code_r t_waiting_r hf _ _ hP hD hS _ (lv_sub hl [0] rfl)
  · have hf := ineg c1 hf
    refine lv_aload_n hx hb dX5_takeBehindClause_9 rfl (lv_at hl 0 rfl) ?_
    refine va_get (D := D) (ci := 5) (v := .int t_sign) (C := RX5) (T := TX5) (N := 17) hx hb hts in_X5_takeBehindClause_X5 hown hK hP 0 rfl rfl 10 (by decide) (hts (.fieldLink RX5 64 "DivisionHall$Reader" "sign" "I") (by decide +kernel)) (fun _ h9 => h9) rfl dX5_takeBehindClause_10 ?_
    refine lv_bipush (v := (22 : Int32)) hx hb dX5_takeBehindClause_13 (by decide) ?_
    refine lv_icmp_ne (tgt := 41) hx hb dX5_takeBehindClause_15 (by decide) (fun c2 => ?_) (fun c2 => ?_)
    · have hf := ineg c2 hf
      refine lv_aload_n hx hb dX5_takeBehindClause_41 rfl (lv_at hl 0 rfl) ?_
      refine va_get (D := D) (ci := 5) (v := .int t_sign) (C := RX5) (T := TX5) (N := 17) hx hb hts in_X5_takeBehindClause_X5 hown hK hP 0 rfl rfl 10 (by decide) (hts (.fieldLink RX5 64 "DivisionHall$Reader" "sign" "I") (by decide +kernel)) (fun _ h9 => h9) rfl dX5_takeBehindClause_42 ?_
      refine lv_iconst (v := (4 : Int32)) hx hb dX5_takeBehindClause_45 (by decide) ?_
      refine lv_icmp_ne (tgt := 99) hx hb dX5_takeBehindClause_46 (by decide) (fun c3 => ?_) (fun c3 => ?_)
      · have hf := ineg c3 hf
        exact w_X5_takeBehindClause_99 X hK hA t_codes t_fault t_faultPlace t_open t_parentheses t_state t_waits t_code_r t_waiting_r hf _ _ hP hD hS _ (lv_sub hl [0] rfl)
      · have hf := ipos c3 hf
        refine lv_aload_n hx hb dX5_takeBehindClause_49 rfl (lv_at hl 0 rfl) ?_
        refine va_get (D := D) (ci := 5) (v := .int t_parentheses) (C := RX5) (T := TX5) (N := 17) hx hb hts in_X5_takeBehindClause_X5 hown hK hP 0 rfl rfl 16 (by decide) (hts (.fieldLink RX5 47 "DivisionHall$Reader" "parentheses" "I") (by decide +kernel)) (fun _ h9 => h9) rfl dX5_takeBehindClause_50 ?_
        refine lv_if_le (tgt := 99) hx hb dX5_takeBehindClause_53 (by decide) (fun c4 => ?_) (fun c4 => ?_)
        · have hf := ipos c4 hf
          exact w_X5_takeBehindClause_99 X hK hA t_codes t_fault t_faultPlace t_open t_parentheses t_state t_waits t_code_r t_waiting_r hf _ _ hP hD hS _ (lv_sub hl [0] rfl)
        · have hf := ineg c4 hf
          refine lv_aload_n hx hb dX5_takeBehindClause_56 rfl (lv_at hl 0 rfl) ?_
          refine lv_iconst (v := (1 : Int32)) hx hb dX5_takeBehindClause_57 (by decide) ?_
          obtain ⟨r5, hr6, hf⟩ := bnd hf
          refine wcallv (D := D) (cI := cI) (cZ := cZ) (cR := cR) (wc := (wd_X5_release cI cZ cR a_t a_t_text a_t_code a_t_waiting t_length t_codes t_waits t_fault t_faultPlace t_at t_place t_sign t_number t_state t_name t_compared t_open t_parentheses t_code_r t_waiting_r)) (w' := (wd_X5_release cI cZ cR a_t a_t_text a_t_code a_t_waiting t_length (r5.1) (r5.2.2.1) t_fault t_faultPlace t_at t_place t_sign t_number t_state t_name t_compared (r5.2.1) t_parentheses (r5.2.2.2) t_waiting_r)) [0, 1, 2] hP hD hS hA rfl rfl rfl (rnV (As := [.int (1 : Int32)]) (ci := 5) (q0 := 0) X [0, 1, 2] hK hP hD rfl rfl rfl rfl (c_X5_release l D cI cZ cR hr6) (cwV 1 hts gX5_takeBehindClause_X5_release rfl rfl rfl (by decide +kernel) ⟨Nat.le_of_ble_eq_true rfl, Nat.le_of_ble_eq_true rfl⟩) rfl hl.1 rfl (Nat.le_of_ble_eq_true rfl) dX5_takeBehindClause_58) (fun H locs hP hD hS => ?_)
          have hP : va_P D vwCl (wd_X5_takeBehindClause cI cZ cR a_t a_t_text a_t_code a_t_waiting t_length (r5.1) (r5.2.2.1) t_fault t_faultPlace t_at t_place t_sign t_number t_state t_name t_compared (r5.2.1) t_parentheses (r5.2.2.2) t_waiting_r) H := hP
          have hD : va_D A (wd_X5_takeBehindClause cI cZ cR a_t a_t_text a_t_code a_t_waiting t_length (r5.1) (r5.2.2.1) t_fault t_faultPlace t_at t_place t_sign t_number t_state t_name t_compared (r5.2.1) t_parentheses (r5.2.2.2) t_waiting_r) := hD
          refine lv_aload_n hx hb dX5_takeBehindClause_61 rfl (lv_at hl 0 rfl) ?_
          refine lv_dup hx hb dX5_takeBehindClause_62 rfl ?_
          refine va_get (D := D) (ci := 5) (v := .int (r5.2.2.1)) (C := RX5) (T := TX5) (N := 17) hx hb hts in_X5_takeBehindClause_X5 hown hK hP 0 rfl rfl 5 (by decide) (hts (.fieldLink RX5 31 "DivisionHall$Reader" "waits" "I") (by decide +kernel)) (fun _ h9 => h9) rfl dX5_takeBehindClause_63 ?_
          refine lv_iconst (v := (1 : Int32)) hx hb dX5_takeBehindClause_66 (by decide) ?_
          refine lv_isub hx hb dX5_takeBehindClause_67 ?_
          refine va_put (D := D) (ci := 5) (v := .int ((r5.2.2.1) - (1 : Int32))) (ty := .int) (C := RX5) (T := TX5) (N := 17) hx hb hts in_X5_takeBehindClause_X5 tyX5 tyX5_ok nmX5 hown hK hP hD hS 0 rfl rfl 5 (by decide) (hts (.fieldLink RX5 31 "DivisionHall$Reader" "waits" "I") (by decide +kernel)) (fun _ h9 => h9) rfl (by decide +kernel) rfl rfl (Nat.le_of_ble_eq_true rfl) dX5_takeBehindClause_68 (fun H locs hP hD hS => ?_)
          have hP : va_P D vwCl (wd_X5_takeBehindClause cI cZ cR a_t a_t_text a_t_code a_t_waiting t_length (r5.1) ((r5.2.2.1) - (1 : Int32)) t_fault t_faultPlace t_at t_place t_sign t_number t_state t_name t_compared (r5.2.1) t_parentheses (r5.2.2.2) t_waiting_r) H := hP
          have hD : va_D A (wd_X5_takeBehindClause cI cZ cR a_t a_t_text a_t_code a_t_waiting t_length (r5.1) ((r5.2.2.1) - (1 : Int32)) t_fault t_faultPlace t_at t_place t_sign t_number t_state t_name t_compared (r5.2.1) t_parentheses (r5.2.2.2) t_waiting_r) := hD
          refine lv_aload_n hx hb dX5_takeBehindClause_71 rfl (lv_at hl 0 rfl) ?_
          refine lv_dup hx hb dX5_takeBehindClause_72 rfl ?_
          refine va_get (D := D) (ci := 5) (v := .int (r5.2.1)) (C := RX5) (T := TX5) (N := 17) hx hb hts in_X5_takeBehindClause_X5 hown hK hP 0 rfl rfl 15 (by decide) (hts (.fieldLink RX5 44 "DivisionHall$Reader" "open" "I") (by decide +kernel)) (fun _ h9 => h9) rfl dX5_takeBehindClause_73 ?_
          refine lv_iconst (v := (1 : Int32)) hx hb dX5_takeBehindClause_76 (by decide) ?_
          refine lv_isub hx hb dX5_takeBehindClause_77 ?_
          refine va_put (D := D) (ci := 5) (v := .int ((r5.2.1) - (1 : Int32))) (ty := .int) (C := RX5) (T := TX5) (N := 17) hx hb hts in_X5_takeBehindClause_X5 tyX5 tyX5_ok nmX5 hown hK hP hD hS 0 rfl rfl 15 (by decide) (hts (.fieldLink RX5 44 "DivisionHall$Reader" "open" "I") (by decide +kernel)) (fun _ h9 => h9) rfl (by decide +kernel) rfl rfl (Nat.le_of_ble_eq_true rfl) dX5_takeBehindClause_78 (fun H locs hP hD hS => ?_)
          have hP : va_P D vwCl (wd_X5_takeBehindClause cI cZ cR a_t a_t_text a_t_code a_t_waiting t_length (r5.1) ((r5.2.2.1) - (1 : Int32)) t_fault t_faultPlace t_at t_place t_sign t_number t_state t_name t_compared ((r5.2.1) - (1 : Int32)) t_parentheses (r5.2.2.2) t_waiting_r) H := hP
          have hD : va_D A (wd_X5_takeBehindClause cI cZ cR a_t a_t_text a_t_code a_t_waiting t_length (r5.1) ((r5.2.2.1) - (1 : Int32)) t_fault t_faultPlace t_at t_place t_sign t_number t_state t_name t_compared ((r5.2.1) - (1 : Int32)) t_parentheses (r5.2.2.2) t_waiting_r) := hD
          refine lv_aload_n hx hb dX5_takeBehindClause_81 rfl (lv_at hl 0 rfl) ?_
          refine lv_dup hx hb dX5_takeBehindClause_82 rfl ?_
          refine va_get (D := D) (ci := 5) (v := .int t_parentheses) (C := RX5) (T := TX5) (N := 17) hx hb hts in_X5_takeBehindClause_X5 hown hK hP 0 rfl rfl 16 (by decide) (hts (.fieldLink RX5 47 "DivisionHall$Reader" "parentheses" "I") (by decide +kernel)) (fun _ h9 => h9) rfl dX5_takeBehindClause_83 ?_
          refine lv_iconst (v := (1 : Int32)) hx hb dX5_takeBehindClause_86 (by decide) ?_
          refine lv_isub hx hb dX5_takeBehindClause_87 ?_
          refine va_put (D := D) (ci := 5) (v := .int (t_parentheses - (1 : Int32))) (ty := .int) (C := RX5) (T := TX5) (N := 17) hx hb hts in_X5_takeBehindClause_X5 tyX5 tyX5_ok nmX5 hown hK hP hD hS 0 rfl rfl 16 (by decide) (hts (.fieldLink RX5 47 "DivisionHall$Reader" "parentheses" "I") (by decide +kernel)) (fun _ h9 => h9) rfl (by decide +kernel) rfl rfl (Nat.le_of_ble_eq_true rfl) dX5_takeBehindClause_88 (fun H locs hP hD hS => ?_)
          have hP : va_P D vwCl (wd_X5_takeBehindClause cI cZ cR a_t a_t_text a_t_code a_t_waiting t_length (r5.1) ((r5.2.2.1) - (1 : Int32)) t_fault t_faultPlace t_at t_place t_sign t_number t_state t_name t_compared ((r5.2.1) - (1 : Int32)) (t_parentheses - (1 : Int32)) (r5.2.2.2) t_waiting_r) H := hP
          have hD : va_D A (wd_X5_takeBehindClause cI cZ cR a_t a_t_text a_t_code a_t_waiting t_length (r5.1) ((r5.2.2.1) - (1 : Int32)) t_fault t_faultPlace t_at t_place t_sign t_number t_state t_name t_compared ((r5.2.1) - (1 : Int32)) (t_parentheses - (1 : Int32)) (r5.2.2.2) t_waiting_r) := hD
          refine lv_aload_n hx hb dX5_takeBehindClause_91 rfl (lv_at hl 0 rfl) ?_
          refine lv_iconst (v := (5 : Int32)) hx hb dX5_takeBehindClause_92 (by decide) ?_
          refine va_put (D := D) (ci := 5) (v := .int (5 : Int32)) (ty := .int) (C := RX5) (T := TX5) (N := 17) hx hb hts in_X5_takeBehindClause_X5 tyX5 tyX5_ok nmX5 hown hK hP hD hS 0 rfl rfl 12 (by decide) (hts (.fieldLink RX5 50 "DivisionHall$Reader" "state" "I") (by decide +kernel)) (fun _ h9 => h9) rfl (by decide +kernel) rfl rfl (Nat.le_of_ble_eq_true rfl) dX5_takeBehindClause_93 (fun H locs hP hD hS => ?_)
          have hP : va_P D vwCl (wd_X5_takeBehindClause cI cZ cR a_t a_t_text a_t_code a_t_waiting t_length (r5.1) ((r5.2.2.1) - (1 : Int32)) t_fault t_faultPlace t_at t_place t_sign t_number (5 : Int32) t_name t_compared ((r5.2.1) - (1 : Int32)) (t_parentheses - (1 : Int32)) (r5.2.2.2) t_waiting_r) H := hP
          have hD : va_D A (wd_X5_takeBehindClause cI cZ cR a_t a_t_text a_t_code a_t_waiting t_length (r5.1) ((r5.2.2.1) - (1 : Int32)) t_fault t_faultPlace t_at t_place t_sign t_number (5 : Int32) t_name t_compared ((r5.2.1) - (1 : Int32)) (t_parentheses - (1 : Int32)) (r5.2.2.2) t_waiting_r) := hD
          refine lv_goto (tgt := 133) hx hb dX5_takeBehindClause_96 (by decide) ?_
          cases hf
          exact retv X hK hP hD hS dX5_takeBehindClause_133
    · have hf := ipos c2 hf
      exact w_X5_takeBehindClause_18 X hK hA t_codes t_fault t_faultPlace t_open t_parentheses t_state t_waits t_code_r t_waiting_r hf _ _ hP hD hS _ (lv_sub hl [0] rfl)

abbrev wd_X5_takeBehindUnit (cI cZ cR : ClassId) (a_t a_t_text a_t_code a_t_waiting : Nat) (t_length t_codes t_waits t_fault t_faultPlace t_at t_place t_sign t_number t_state t_name t_compared t_open t_parentheses : Int32) (t_code_r : Nat → Int32) (t_waiting_r : Nat → Int32) : va_W := [(a_t, oB 5 [.ref a_t_text, .ref a_t_code, .ref a_t_waiting, .int t_length, .int t_codes, .int t_waits, .int t_fault, .int t_faultPlace, .int t_at, .int t_place, .int t_sign, .int t_number, .int t_state, .int t_name, .int t_compared, .int t_open, .int t_parentheses]), (a_t_code, aI cI 400 t_code_r), (a_t_waiting, aI cI 40 t_waiting_r)]
def F_X5_takeBehindUnit (t_codes : Int32) (t_compared : Int32) (t_fault : Int32) (t_faultPlace : Int32) (t_open : Int32) (t_place : Int32) (t_sign : Int32) (t_state : Int32) (t_waits : Int32) (t_code_r : Nat → Int32) (t_waiting_r : Nat → Int32) : Option (Int32 × Int32 × Int32 × Int32 × Int32 × Int32 × Int32 × (Nat → Int32) × (Nat → Int32)) := ((F_X8_isSum t_sign).bind (fun r1 => (if r1 = 0 then ((F_X8_isComparison t_sign).bind (fun r4 => (if r4 = 0 then ((F_X5_stop (1 : Int32) t_fault t_faultPlace t_place t_state).bind (fun r7 => (some (t_codes, t_compared, (r7.1), (r7.2.1), t_open, (r7.2.2), t_waits, t_code_r, t_waiting_r)))) else ((F_X8_rank t_sign).bind (fun r9 => ((F_X5_release r9 t_codes t_open t_waits t_code_r t_waiting_r).bind (fun r11 => ((F_X5_push t_sign (r11.2.2.1) t_waiting_r).bind (fun r13 => (some ((r11.1), (1 : Int32), t_fault, t_faultPlace, (r11.2.1), (1 : Int32), (r13.1), (r11.2.2.2), (r13.2)))))))))))) else ((F_X8_rank t_sign).bind (fun r15 => ((F_X5_release r15 t_codes t_open t_waits t_code_r t_waiting_r).bind (fun r17 => ((F_X5_push t_sign (r17.2.2.1) t_waiting_r).bind (fun r19 => (some ((r17.1), t_compared, t_fault, t_faultPlace, (r17.2.1), (1 : Int32), (r19.1), (r17.2.2.2), (r19.2))))))))))))
set_option maxRecDepth 100000 in
theorem in_X5_takeBehindUnit_X5 : ∀ w ∈ wsX50, w ∈ wsX5_takeBehindUnit := by decide +kernel
set_option maxHeartbeats 4000000 in
set_option maxRecDepth 100000 in
theorem c_X5_takeBehindUnit (l : Launch) (D : va_G) (cI cZ cR : ClassId) {a_t a_t_text a_t_code a_t_waiting : Nat} {t_length : Int32} {t_codes : Int32} {t_waits : Int32} {t_fault : Int32} {t_faultPlace : Int32} {t_at : Int32} {t_place : Int32} {t_sign : Int32} {t_number : Int32} {t_state : Int32} {t_name : Int32} {t_compared : Int32} {t_open : Int32} {t_parentheses : Int32} {t_code_r : Nat → Int32} {t_waiting_r : Nat → Int32} {sz : Nat} {out : Int32 × Int32 × Int32 × Int32 × Int32 × Int32 × Int32 × (Nat → Int32) × (Nat → Int32)} (hf : F_X5_takeBehindUnit t_codes t_compared t_fault t_faultPlace t_open t_place t_sign t_state t_waits t_code_r t_waiting_r = some out) : CV l yX5_takeBehindUnit wsX5_takeBehindUnit ({ frames := 3, cells := 0, slots := 0, locals := 66 } : Room) D cI cZ cR [.ref a_t] (wd_X5_takeBehindUnit cI cZ cR a_t a_t_text a_t_code a_t_waiting t_length t_codes t_waits t_fault t_faultPlace t_at t_place t_sign t_number t_state t_name t_compared t_open t_parentheses t_code_r t_waiting_r) sz (wd_X5_takeBehindUnit cI cZ cR a_t a_t_text a_t_code a_t_waiting t_length (out.1) (out.2.2.2.2.2.2.1) (out.2.2.1) (out.2.2.2.1) t_at t_place t_sign t_number (out.2.2.2.2.2.1) t_name (out.2.1) (out.2.2.2.2.1) t_parentheses (out.2.2.2.2.2.2.2.1) (out.2.2.2.2.2.2.2.2)) := by
  refine met_of (Qf := fun A => qv D cI cZ cR A (wd_X5_takeBehindUnit cI cZ cR a_t a_t_text a_t_code a_t_waiting t_length (out.1) (out.2.2.2.2.2.2.1) (out.2.2.1) (out.2.2.2.1) t_at t_place t_sign t_number (out.2.2.2.2.2.1) t_name (out.2.1) (out.2.2.2.2.1) t_parentheses (out.2.2.2.2.2.2.2.1) (out.2.2.2.2.2.2.2.2))) RX5 (by decide +kernel) rfl rfl (Nat.le_of_ble_eq_true rfl) ?_
  intro p e s m below meth c A X hK hA hP hD hS ls hl
  have hl : lv_has ls 1 [(0, .ref a_t)] := hl
  obtain ⟨hx, hb, hml, hr, hown, hts, hlocks, hN⟩ := id X
  unfold F_X5_takeBehindUnit at hf
  refine lv_aload_n hx hb dX5_takeBehindUnit_0 rfl (lv_at hl 0 rfl) ?_
  refine va_get (D := D) (ci := 5) (v := .int t_sign) (C := RX5) (T := TX5) (N := 17) hx hb hts in_X5_takeBehindUnit_X5 hown hK hP 0 rfl rfl 10 (by decide) (hts (.fieldLink RX5 64 "DivisionHall$Reader" "sign" "I") (by decide +kernel)) (fun _ h9 => h9) rfl dX5_takeBehindUnit_1 ?_
  obtain ⟨r1, hr2, hf⟩ := bnd hf
  refine wcalli (D := D) (cI := cI) (cZ := cZ) (cR := cR) (wc := (wd_X8_isSum cI cZ cR)) (w' := (wd_X8_isSum cI cZ cR)) [] hP hD hS hA rfl rfl rfl (rnS (As := [.int t_sign]) X [] hK hP hD rfl rfl (c_X8_isSum l D cI cZ cR hr2) ⟨callB_of 1 hts ggX5_takeBehindUnit_X8_isSum rfl rfl rfl (hts (.initialized RX8) (by decide +kernel)) (hts (.methodLink RX5 125 yX8_isSum) (by decide +kernel)) (by decide +kernel) ⟨Nat.le_of_ble_eq_true rfl, Nat.le_of_ble_eq_true rfl⟩, hts (.static yX8_isSum) (by decide +kernel)⟩ rfl hl.1 rfl (Nat.le_of_ble_eq_true rfl) dX5_takeBehindUnit_4) (fun H locs hP hD hS => ?_)
  have hP : va_P D vwCl (wd_X5_takeBehindUnit cI cZ cR a_t a_t_text a_t_code a_t_waiting t_length t_codes t_waits t_fault t_faultPlace t_at t_place t_sign t_number t_state t_name t_compared t_open t_parentheses t_code_r t_waiting_r) H := hP
  have hD : va_D A (wd_X5_takeBehindUnit cI cZ cR a_t a_t_text a_t_code a_t_waiting t_length t_codes t_waits t_fault t_faultPlace t_at t_place t_sign t_number t_state t_name t_compared t_open t_parentheses t_code_r t_waiting_r) := hD
  refine lv_if_eq (tgt := 33) hx hb dX5_takeBehindUnit_7 (by decide) (fun c3 => ?_) (fun c3 => ?_)
  · have hf := ipos c3 hf
    refine lv_aload_n hx hb dX5_takeBehindUnit_33 rfl (lv_at hl 0 rfl) ?_
    refine va_get (D := D) (ci := 5) (v := .int t_sign) (C := RX5) (T := TX5) (N := 17) hx hb hts in_X5_takeBehindUnit_X5 hown hK hP 0 rfl rfl 10 (by decide) (hts (.fieldLink RX5 64 "DivisionHall$Reader" "sign" "I") (by decide +kernel)) (fun _ h9 => h9) rfl dX5_takeBehindUnit_34 ?_
    obtain ⟨r4, hr5, hf⟩ := bnd hf
    refine wcalli (D := D) (cI := cI) (cZ := cZ) (cR := cR) (wc := (wd_X8_isComparison cI cZ cR)) (w' := (wd_X8_isComparison cI cZ cR)) [] hP hD hS hA rfl rfl rfl (rnS (As := [.int t_sign]) X [] hK hP hD rfl rfl (c_X8_isComparison l D cI cZ cR hr5) ⟨callB_of 1 hts ggX5_takeBehindUnit_X8_isComparison rfl rfl rfl (hts (.initialized RX8) (by decide +kernel)) (hts (.methodLink RX5 165 yX8_isComparison) (by decide +kernel)) (by decide +kernel) ⟨Nat.le_of_ble_eq_true rfl, Nat.le_of_ble_eq_true rfl⟩, hts (.static yX8_isComparison) (by decide +kernel)⟩ rfl hl.1 rfl (Nat.le_of_ble_eq_true rfl) dX5_takeBehindUnit_37) (fun H locs hP hD hS => ?_)
    have hP : va_P D vwCl (wd_X5_takeBehindUnit cI cZ cR a_t a_t_text a_t_code a_t_waiting t_length t_codes t_waits t_fault t_faultPlace t_at t_place t_sign t_number t_state t_name t_compared t_open t_parentheses t_code_r t_waiting_r) H := hP
    have hD : va_D A (wd_X5_takeBehindUnit cI cZ cR a_t a_t_text a_t_code a_t_waiting t_length t_codes t_waits t_fault t_faultPlace t_at t_place t_sign t_number t_state t_name t_compared t_open t_parentheses t_code_r t_waiting_r) := hD
    refine lv_if_eq (tgt := 71) hx hb dX5_takeBehindUnit_40 (by decide) (fun c6 => ?_) (fun c6 => ?_)
    · have hf := ipos c6 hf
      refine lv_aload_n hx hb dX5_takeBehindUnit_71 rfl (lv_at hl 0 rfl) ?_
      refine lv_iconst (v := (1 : Int32)) hx hb dX5_takeBehindUnit_72 (by decide) ?_
      obtain ⟨r7, hr8, hf⟩ := bnd hf
      refine wcallv (D := D) (cI := cI) (cZ := cZ) (cR := cR) (wc := (wd_X5_stop cI cZ cR a_t a_t_text a_t_code a_t_waiting t_length t_codes t_waits t_fault t_faultPlace t_at t_place t_sign t_number t_state t_name t_compared t_open t_parentheses)) (w' := (wd_X5_stop cI cZ cR a_t a_t_text a_t_code a_t_waiting t_length t_codes t_waits (r7.1) (r7.2.1) t_at t_place t_sign t_number (r7.2.2) t_name t_compared t_open t_parentheses)) [0] hP hD hS hA rfl rfl rfl (rnV (As := [.int (1 : Int32)]) (ci := 5) (q0 := 0) X [0] hK hP hD rfl rfl rfl rfl (c_X5_stop l D cI cZ cR hr8) (cwV 1 hts gX5_takeBehindUnit_X5_stop rfl rfl rfl (by decide +kernel) ⟨Nat.le_of_ble_eq_true rfl, Nat.le_of_ble_eq_true rfl⟩) rfl hl.1 rfl (Nat.le_of_ble_eq_true rfl) dX5_takeBehindUnit_73) (fun H locs hP hD hS => ?_)
      have hP : va_P D vwCl (wd_X5_takeBehindUnit cI cZ cR a_t a_t_text a_t_code a_t_waiting t_length t_codes t_waits (r7.1) (r7.2.1) t_at t_place t_sign t_number (r7.2.2) t_name t_compared t_open t_parentheses t_code_r t_waiting_r) H := hP
      have hD : va_D A (wd_X5_takeBehindUnit cI cZ cR a_t a_t_text a_t_code a_t_waiting t_length t_codes t_waits (r7.1) (r7.2.1) t_at t_place t_sign t_number (r7.2.2) t_name t_compared t_open t_parentheses t_code_r t_waiting_r) := hD
      cases hf
      exact retv X hK hP hD hS dX5_takeBehindUnit_76
    · have hf := ineg c6 hf
      refine lv_aload_n hx hb dX5_takeBehindUnit_43 rfl (lv_at hl 0 rfl) ?_
      refine lv_aload_n hx hb dX5_takeBehindUnit_44 rfl (lv_at hl 0 rfl) ?_
      refine va_get (D := D) (ci := 5) (v := .int t_sign) (C := RX5) (T := TX5) (N := 17) hx hb hts in_X5_takeBehindUnit_X5 hown hK hP 0 rfl rfl 10 (by decide) (hts (.fieldLink RX5 64 "DivisionHall$Reader" "sign" "I") (by decide +kernel)) (fun _ h9 => h9) rfl dX5_takeBehindUnit_45 ?_
      obtain ⟨r9, hr10, hf⟩ := bnd hf
      refine wcalli (D := D) (cI := cI) (cZ := cZ) (cR := cR) (wc := (wd_X8_rank cI cZ cR)) (w' := (wd_X8_rank cI cZ cR)) [] hP hD hS hA rfl rfl rfl (rnS (As := [.int t_sign]) X [] hK hP hD rfl rfl (c_X8_rank l D cI cZ cR hr10) ⟨callB_of 1 hts ggX5_takeBehindUnit_X8_rank rfl rfl rfl (hts (.initialized RX8) (by decide +kernel)) (hts (.methodLink RX5 159 yX8_rank) (by decide +kernel)) (by decide +kernel) ⟨Nat.le_of_ble_eq_true rfl, Nat.le_of_ble_eq_true rfl⟩, hts (.static yX8_rank) (by decide +kernel)⟩ rfl hl.1 rfl (Nat.le_of_ble_eq_true rfl) dX5_takeBehindUnit_48) (fun H locs hP hD hS => ?_)
      have hP : va_P D vwCl (wd_X5_takeBehindUnit cI cZ cR a_t a_t_text a_t_code a_t_waiting t_length t_codes t_waits t_fault t_faultPlace t_at t_place t_sign t_number t_state t_name t_compared t_open t_parentheses t_code_r t_waiting_r) H := hP
      have hD : va_D A (wd_X5_takeBehindUnit cI cZ cR a_t a_t_text a_t_code a_t_waiting t_length t_codes t_waits t_fault t_faultPlace t_at t_place t_sign t_number t_state t_name t_compared t_open t_parentheses t_code_r t_waiting_r) := hD
      obtain ⟨r11, hr12, hf⟩ := bnd hf
      refine wcallv (D := D) (cI := cI) (cZ := cZ) (cR := cR) (wc := (wd_X5_release cI cZ cR a_t a_t_text a_t_code a_t_waiting t_length t_codes t_waits t_fault t_faultPlace t_at t_place t_sign t_number t_state t_name t_compared t_open t_parentheses t_code_r t_waiting_r)) (w' := (wd_X5_release cI cZ cR a_t a_t_text a_t_code a_t_waiting t_length (r11.1) (r11.2.2.1) t_fault t_faultPlace t_at t_place t_sign t_number t_state t_name t_compared (r11.2.1) t_parentheses (r11.2.2.2) t_waiting_r)) [0, 1, 2] hP hD hS hA rfl rfl rfl (rnV (As := [.int r9]) (ci := 5) (q0 := 0) X [0, 1, 2] hK hP hD rfl rfl rfl rfl (c_X5_release l D cI cZ cR hr12) (cwV 1 hts gX5_takeBehindUnit_X5_release rfl rfl rfl (by decide +kernel) ⟨Nat.le_of_ble_eq_true rfl, Nat.le_of_ble_eq_true rfl⟩) rfl hl.1 rfl (Nat.le_of_ble_eq_true rfl) dX5_takeBehindUnit_51) (fun H locs hP hD hS => ?_)
      have hP : va_P D vwCl (wd_X5_takeBehindUnit cI cZ cR a_t a_t_text a_t_code a_t_waiting t_length (r11.1) (r11.2.2.1) t_fault t_faultPlace t_at t_place t_sign t_number t_state t_name t_compared (r11.2.1) t_parentheses (r11.2.2.2) t_waiting_r) H := hP
      have hD : va_D A (wd_X5_takeBehindUnit cI cZ cR a_t a_t_text a_t_code a_t_waiting t_length (r11.1) (r11.2.2.1) t_fault t_faultPlace t_at t_place t_sign t_number t_state t_name t_compared (r11.2.1) t_parentheses (r11.2.2.2) t_waiting_r) := hD
      refine lv_aload_n hx hb dX5_takeBehindUnit_54 rfl (lv_at hl 0 rfl) ?_
      obtain ⟨r13, hr14, hf⟩ := bnd hf
      refine wcallv (D := D) (cI := cI) (cZ := cZ) (cR := cR) (wc := (wd_X5_push cI cZ cR a_t a_t_text a_t_code a_t_waiting t_length (r11.1) (r11.2.2.1) t_fault t_faultPlace t_at t_place t_sign t_number t_state t_name t_compared (r11.2.1) t_parentheses t_waiting_r)) (w' := (wd_X5_push cI cZ cR a_t a_t_text a_t_code a_t_waiting t_length (r11.1) (r13.1) t_fault t_faultPlace t_at t_place t_sign t_number t_state t_name t_compared (r11.2.1) t_parentheses (r13.2))) [0, 2] hP hD hS hA rfl rfl rfl (rnV (As := []) (ci := 5) (q0 := 0) X [0, 2] hK hP hD rfl rfl rfl rfl (c_X5_push l D cI cZ cR hr14) (cwV 0 hts gX5_takeBehindUnit_X5_push rfl rfl rfl (by decide +kernel) ⟨Nat.le_of_ble_eq_true rfl, Nat.le_of_ble_eq_true rfl⟩) rfl hl.1 rfl (Nat.le_of_ble_eq_true rfl) dX5_takeBehindUnit_55) (fun H locs hP hD hS => ?_)
      have hP : va_P D vwCl (wd_X5_takeBehindUnit cI cZ cR a_t a_t_text a_t_code a_t_waiting t_length (r11.1) (r13.1) t_fault t_faultPlace t_at t_place t_sign t_number t_state t_name t_compared (r11.2.1) t_parentheses (r11.2.2.2) (r13.2)) H := hP
      have hD : va_D A (wd_X5_takeBehindUnit cI cZ cR a_t a_t_text a_t_code a_t_waiting t_length (r11.1) (r13.1) t_fault t_faultPlace t_at t_place t_sign t_number t_state t_name t_compared (r11.2.1) t_parentheses (r11.2.2.2) (r13.2)) := hD
      refine lv_aload_n hx hb dX5_takeBehindUnit_58 rfl (lv_at hl 0 rfl) ?_
      refine lv_iconst (v := (1 : Int32)) hx hb dX5_takeBehindUnit_59 (by decide) ?_
      refine va_put (D := D) (ci := 5) (v := .int (1 : Int32)) (ty := .boolean) (C := RX5) (T := TX5) (N := 17) hx hb hts in_X5_takeBehindUnit_X5 tyX5 tyX5_ok nmX5 hown hK hP hD hS 0 rfl rfl 14 (by decide) (hts (.fieldLink RX5 40 "DivisionHall$Reader" "compared" "Z") (by decide +kernel)) (fun _ h9 => h9) rfl (by decide +kernel) rfl rfl (Nat.le_of_ble_eq_true rfl) dX5_takeBehindUnit_60 (fun H locs hP hD hS => ?_)
      have hP : va_P D vwCl (wd_X5_takeBehindUnit cI cZ cR a_t a_t_text a_t_code a_t_waiting t_length (r11.1) (r13.1) t_fault t_faultPlace t_at t_place t_sign t_number t_state t_name (1 : Int32) (r11.2.1) t_parentheses (r11.2.2.2) (r13.2)) H := hP
      have hD : va_D A (wd_X5_takeBehindUnit cI cZ cR a_t a_t_text a_t_code a_t_waiting t_length (r11.1) (r13.1) t_fault t_faultPlace t_at t_place t_sign t_number t_state t_name (1 : Int32) (r11.2.1) t_parentheses (r11.2.2.2) (r13.2)) := hD
      refine lv_aload_n hx hb dX5_takeBehindUnit_63 rfl (lv_at hl 0 rfl) ?_
      refine lv_iconst (v := (1 : Int32)) hx hb dX5_takeBehindUnit_64 (by decide) ?_
      refine va_put (D := D) (ci := 5) (v := .int (1 : Int32)) (ty := .int) (C := RX5) (T := TX5) (N := 17) hx hb hts in_X5_takeBehindUnit_X5 tyX5 tyX5_ok nmX5 hown hK hP hD hS 0 rfl rfl 12 (by decide) (hts (.fieldLink RX5 50 "DivisionHall$Reader" "state" "I") (by decide +kernel)) (fun _ h9 => h9) rfl (by decide +kernel) rfl rfl (Nat.le_of_ble_eq_true rfl) dX5_takeBehindUnit_65 (fun H locs hP hD hS => ?_)
      have hP : va_P D vwCl (wd_X5_takeBehindUnit cI cZ cR a_t a_t_text a_t_code a_t_waiting t_length (r11.1) (r13.1) t_fault t_faultPlace t_at t_place t_sign t_number (1 : Int32) t_name (1 : Int32) (r11.2.1) t_parentheses (r11.2.2.2) (r13.2)) H := hP
      have hD : va_D A (wd_X5_takeBehindUnit cI cZ cR a_t a_t_text a_t_code a_t_waiting t_length (r11.1) (r13.1) t_fault t_faultPlace t_at t_place t_sign t_number (1 : Int32) t_name (1 : Int32) (r11.2.1) t_parentheses (r11.2.2.2) (r13.2)) := hD
      refine lv_goto (tgt := 76) hx hb dX5_takeBehindUnit_68 (by decide) ?_
      cases hf
      exact retv X hK hP hD hS dX5_takeBehindUnit_76
  · have hf := ineg c3 hf
    refine lv_aload_n hx hb dX5_takeBehindUnit_10 rfl (lv_at hl 0 rfl) ?_
    refine lv_aload_n hx hb dX5_takeBehindUnit_11 rfl (lv_at hl 0 rfl) ?_
    refine va_get (D := D) (ci := 5) (v := .int t_sign) (C := RX5) (T := TX5) (N := 17) hx hb hts in_X5_takeBehindUnit_X5 hown hK hP 0 rfl rfl 10 (by decide) (hts (.fieldLink RX5 64 "DivisionHall$Reader" "sign" "I") (by decide +kernel)) (fun _ h9 => h9) rfl dX5_takeBehindUnit_12 ?_
    obtain ⟨r15, hr16, hf⟩ := bnd hf
    refine wcalli (D := D) (cI := cI) (cZ := cZ) (cR := cR) (wc := (wd_X8_rank cI cZ cR)) (w' := (wd_X8_rank cI cZ cR)) [] hP hD hS hA rfl rfl rfl (rnS (As := [.int t_sign]) X [] hK hP hD rfl rfl (c_X8_rank l D cI cZ cR hr16) ⟨callB_of 1 hts ggX5_takeBehindUnit_X8_rank rfl rfl rfl (hts (.initialized RX8) (by decide +kernel)) (hts (.methodLink RX5 159 yX8_rank) (by decide +kernel)) (by decide +kernel) ⟨Nat.le_of_ble_eq_true rfl, Nat.le_of_ble_eq_true rfl⟩, hts (.static yX8_rank) (by decide +kernel)⟩ rfl hl.1 rfl (Nat.le_of_ble_eq_true rfl) dX5_takeBehindUnit_15) (fun H locs hP hD hS => ?_)
    have hP : va_P D vwCl (wd_X5_takeBehindUnit cI cZ cR a_t a_t_text a_t_code a_t_waiting t_length t_codes t_waits t_fault t_faultPlace t_at t_place t_sign t_number t_state t_name t_compared t_open t_parentheses t_code_r t_waiting_r) H := hP
    have hD : va_D A (wd_X5_takeBehindUnit cI cZ cR a_t a_t_text a_t_code a_t_waiting t_length t_codes t_waits t_fault t_faultPlace t_at t_place t_sign t_number t_state t_name t_compared t_open t_parentheses t_code_r t_waiting_r) := hD
    obtain ⟨r17, hr18, hf⟩ := bnd hf
    refine wcallv (D := D) (cI := cI) (cZ := cZ) (cR := cR) (wc := (wd_X5_release cI cZ cR a_t a_t_text a_t_code a_t_waiting t_length t_codes t_waits t_fault t_faultPlace t_at t_place t_sign t_number t_state t_name t_compared t_open t_parentheses t_code_r t_waiting_r)) (w' := (wd_X5_release cI cZ cR a_t a_t_text a_t_code a_t_waiting t_length (r17.1) (r17.2.2.1) t_fault t_faultPlace t_at t_place t_sign t_number t_state t_name t_compared (r17.2.1) t_parentheses (r17.2.2.2) t_waiting_r)) [0, 1, 2] hP hD hS hA rfl rfl rfl (rnV (As := [.int r15]) (ci := 5) (q0 := 0) X [0, 1, 2] hK hP hD rfl rfl rfl rfl (c_X5_release l D cI cZ cR hr18) (cwV 1 hts gX5_takeBehindUnit_X5_release rfl rfl rfl (by decide +kernel) ⟨Nat.le_of_ble_eq_true rfl, Nat.le_of_ble_eq_true rfl⟩) rfl hl.1 rfl (Nat.le_of_ble_eq_true rfl) dX5_takeBehindUnit_18) (fun H locs hP hD hS => ?_)
    have hP : va_P D vwCl (wd_X5_takeBehindUnit cI cZ cR a_t a_t_text a_t_code a_t_waiting t_length (r17.1) (r17.2.2.1) t_fault t_faultPlace t_at t_place t_sign t_number t_state t_name t_compared (r17.2.1) t_parentheses (r17.2.2.2) t_waiting_r) H := hP
    have hD : va_D A (wd_X5_takeBehindUnit cI cZ cR a_t a_t_text a_t_code a_t_waiting t_length (r17.1) (r17.2.2.1) t_fault t_faultPlace t_at t_place t_sign t_number t_state t_name t_compared (r17.2.1) t_parentheses (r17.2.2.2) t_waiting_r) := hD
    refine lv_aload_n hx hb dX5_takeBehindUnit_21 rfl (lv_at hl 0 rfl) ?_
    obtain ⟨r19, hr20, hf⟩ := bnd hf
    refine wcallv (D := D) (cI := cI) (cZ := cZ) (cR := cR) (wc := (wd_X5_push cI cZ cR a_t a_t_text a_t_code a_t_waiting t_length (r17.1) (r17.2.2.1) t_fault t_faultPlace t_at t_place t_sign t_number t_state t_name t_compared (r17.2.1) t_parentheses t_waiting_r)) (w' := (wd_X5_push cI cZ cR a_t a_t_text a_t_code a_t_waiting t_length (r17.1) (r19.1) t_fault t_faultPlace t_at t_place t_sign t_number t_state t_name t_compared (r17.2.1) t_parentheses (r19.2))) [0, 2] hP hD hS hA rfl rfl rfl (rnV (As := []) (ci := 5) (q0 := 0) X [0, 2] hK hP hD rfl rfl rfl rfl (c_X5_push l D cI cZ cR hr20) (cwV 0 hts gX5_takeBehindUnit_X5_push rfl rfl rfl (by decide +kernel) ⟨Nat.le_of_ble_eq_true rfl, Nat.le_of_ble_eq_true rfl⟩) rfl hl.1 rfl (Nat.le_of_ble_eq_true rfl) dX5_takeBehindUnit_22) (fun H locs hP hD hS => ?_)
    have hP : va_P D vwCl (wd_X5_takeBehindUnit cI cZ cR a_t a_t_text a_t_code a_t_waiting t_length (r17.1) (r19.1) t_fault t_faultPlace t_at t_place t_sign t_number t_state t_name t_compared (r17.2.1) t_parentheses (r17.2.2.2) (r19.2)) H := hP
    have hD : va_D A (wd_X5_takeBehindUnit cI cZ cR a_t a_t_text a_t_code a_t_waiting t_length (r17.1) (r19.1) t_fault t_faultPlace t_at t_place t_sign t_number t_state t_name t_compared (r17.2.1) t_parentheses (r17.2.2.2) (r19.2)) := hD
    refine lv_aload_n hx hb dX5_takeBehindUnit_25 rfl (lv_at hl 0 rfl) ?_
    refine lv_iconst (v := (1 : Int32)) hx hb dX5_takeBehindUnit_26 (by decide) ?_
    refine va_put (D := D) (ci := 5) (v := .int (1 : Int32)) (ty := .int) (C := RX5) (T := TX5) (N := 17) hx hb hts in_X5_takeBehindUnit_X5 tyX5 tyX5_ok nmX5 hown hK hP hD hS 0 rfl rfl 12 (by decide) (hts (.fieldLink RX5 50 "DivisionHall$Reader" "state" "I") (by decide +kernel)) (fun _ h9 => h9) rfl (by decide +kernel) rfl rfl (Nat.le_of_ble_eq_true rfl) dX5_takeBehindUnit_27 (fun H locs hP hD hS => ?_)
    have hP : va_P D vwCl (wd_X5_takeBehindUnit cI cZ cR a_t a_t_text a_t_code a_t_waiting t_length (r17.1) (r19.1) t_fault t_faultPlace t_at t_place t_sign t_number (1 : Int32) t_name t_compared (r17.2.1) t_parentheses (r17.2.2.2) (r19.2)) H := hP
    have hD : va_D A (wd_X5_takeBehindUnit cI cZ cR a_t a_t_text a_t_code a_t_waiting t_length (r17.1) (r19.1) t_fault t_faultPlace t_at t_place t_sign t_number (1 : Int32) t_name t_compared (r17.2.1) t_parentheses (r17.2.2.2) (r19.2)) := hD
    refine lv_goto (tgt := 76) hx hb dX5_takeBehindUnit_30 (by decide) ?_
    cases hf
    exact retv X hK hP hD hS dX5_takeBehindUnit_76

abbrev wd_X5_takeOpening (cI cZ cR : ClassId) (a_t a_t_text a_t_code a_t_waiting : Nat) (t_length t_codes t_waits t_fault t_faultPlace t_at t_place t_sign t_number t_state t_name t_compared t_open t_parentheses : Int32) (t_waiting_r : Nat → Int32) : va_W := [(a_t, oB 5 [.ref a_t_text, .ref a_t_code, .ref a_t_waiting, .int t_length, .int t_codes, .int t_waits, .int t_fault, .int t_faultPlace, .int t_at, .int t_place, .int t_sign, .int t_number, .int t_state, .int t_name, .int t_compared, .int t_open, .int t_parentheses]), (a_t_waiting, aI cI 40 t_waiting_r)]
def F_X5_takeOpening_43 (t_place : Int32) (t_sign : Int32) (t_fault : Int32) (t_faultPlace : Int32) (t_open : Int32) (t_parentheses : Int32) (t_state : Int32) (t_waits : Int32) (t_waiting_r : Nat → Int32) : Option (Int32 × Int32 × Int32 × Int32 × Int32 × Int32 × (Nat → Int32)) := ((F_X5_push t_sign t_waits t_waiting_r).bind (fun r5 => (some (t_fault, t_faultPlace, t_open, t_parentheses, (0 : Int32), (r5.1), (r5.2)))))
def F_X5_takeOpening (t_fault : Int32) (t_faultPlace : Int32) (t_open : Int32) (t_parentheses : Int32) (t_place : Int32) (t_sign : Int32) (t_state : Int32) (t_waits : Int32) (t_waiting_r : Nat → Int32) : Option (Int32 × Int32 × Int32 × Int32 × Int32 × Int32 × (Nat → Int32)) := (if t_open < (8 : Int32) then (if t_sign = (3 : Int32) then (F_X5_takeOpening_43 t_place t_sign t_fault t_faultPlace (t_open + (1 : Int32)) (t_parentheses + (1 : Int32)) t_state t_waits t_waiting_r) else (F_X5_takeOpening_43 t_place t_sign t_fault t_faultPlace (t_open + (1 : Int32)) t_parentheses t_state t_waits t_waiting_r)) else ((F_X5_stop (3 : Int32) t_fault t_faultPlace t_place t_state).bind (fun r3 => (some ((r3.1), (r3.2.1), t_open, t_parentheses, (r3.2.2), t_waits, t_waiting_r)))))
set_option maxRecDepth 100000 in
theorem in_X5_takeOpening_X5 : ∀ w ∈ wsX50, w ∈ wsX5_takeOpening := by decide +kernel
set_option maxHeartbeats 4000000 in
set_option maxRecDepth 100000 in
theorem w_X5_takeOpening_43 {p : Program} {l : Launch} {e : Env} {s : State} {m : MethodId} {args : Array Value} {below : List Frame} {meth : Method} {c : Code} {D : va_G} {cI cZ cR : ClassId} {A : Nat → Prop} {a_t a_t_text a_t_code a_t_waiting : Nat} {t_length : Int32} {t_codes : Int32} {t_at : Int32} {t_place : Int32} {t_sign : Int32} {t_number : Int32} {t_name : Int32} {t_compared : Int32} {out : Int32 × Int32 × Int32 × Int32 × Int32 × Int32 × (Nat → Int32)} (X : cx p s m args meth c cX5_takeOpening 1 none RX5 wsX5_takeOpening) (hK : va_K D vwCl (ty3 cI cZ cR) s) (hA : ∀ q, s.heap.size ≤ q → A q) : ∀ (t_fault : Int32) (t_faultPlace : Int32) (t_open : Int32) (t_parentheses : Int32) (t_state : Int32) (t_waits : Int32) (t_waiting_r : Nat → Int32), F_X5_takeOpening_43 t_place t_sign t_fault t_faultPlace t_open t_parentheses t_state t_waits t_waiting_r = some out → ∀ (H : Heap) (locs : List Loc), va_P D vwCl (wd_X5_takeOpening cI cZ cR a_t a_t_text a_t_code a_t_waiting t_length t_codes t_waits t_fault t_faultPlace t_at t_place t_sign t_number t_state t_name t_compared t_open t_parentheses t_waiting_r) H → va_D A (wd_X5_takeOpening cI cZ cR a_t a_t_text a_t_code a_t_waiting t_length t_codes t_waits t_fault t_faultPlace t_at t_place t_sign t_number t_state t_name t_compared t_open t_parentheses t_waiting_r) → va_S A s.heap H locs → ∀ (ls : Array Slot), lv_has ls 1 [(0, .ref a_t)] → W p l e (headSpec wsX5_takeOpening ({ frames := 2, cells := 0, slots := 0, locals := 41 } : Room)).room s m args below meth c H locs 0 0 (MQ below (qv D cI cZ cR A (wd_X5_takeOpening cI cZ cR a_t a_t_text a_t_code a_t_waiting t_length t_codes (out.2.2.2.2.2.1) (out.1) (out.2.1) t_at t_place t_sign t_number (out.2.2.2.2.1) t_name t_compared (out.2.2.1) (out.2.2.2.1) (out.2.2.2.2.2.2))) args s 0 0 A) (F0 m 43 ls []) := by
  obtain ⟨hx, hb, hml, hr, hown, hts, hlocks, hN⟩ := id X
  intro t_fault t_faultPlace t_open t_parentheses t_state t_waits t_waiting_r hf H locs hP hD hS ls hl
  unfold F_X5_takeOpening_43 at hf
  refine lv_aload_n hx hb dX5_takeOpening_43 rfl (lv_at hl 0 rfl) ?_
  obtain ⟨r5, hr6, hf⟩ := bnd hf
  refine wcallv (D := D) (cI := cI) (cZ := cZ) (cR := cR) (wc := (wd_X5_push cI cZ cR a_t a_t_text a_t_code a_t_waiting t_length t_codes t_waits t_fault t_faultPlace t_at t_place t_sign t_number t_state t_name t_compared t_open t_parentheses t_waiting_r)) (w' := (wd_X5_push cI cZ cR a_t a_t_text a_t_code a_t_waiting t_length t_codes (r5.1) t_fault t_faultPlace t_at t_place t_sign t_number t_state t_name t_compared t_open t_parentheses (r5.2))) [0, 1] hP hD hS hA rfl rfl rfl (rnV (As := []) (ci := 5) (q0 := 0) X [0, 1] hK hP hD rfl rfl rfl rfl (c_X5_push l D cI cZ cR hr6) (cwV 0 hts gX5_takeOpening_X5_push rfl rfl rfl (by decide +kernel) ⟨Nat.le_of_ble_eq_true rfl, Nat.le_of_ble_eq_true rfl⟩) rfl hl.1 rfl (Nat.le_of_ble_eq_true rfl) dX5_takeOpening_44) (fun H locs hP hD hS => ?_)
  have hP : va_P D vwCl (wd_X5_takeOpening cI cZ cR a_t a_t_text a_t_code a_t_waiting t_length t_codes (r5.1) t_fault t_faultPlace t_at t_place t_sign t_number t_state t_name t_compared t_open t_parentheses (r5.2)) H := hP
  have hD : va_D A (wd_X5_takeOpening cI cZ cR a_t a_t_text a_t_code a_t_waiting t_length t_codes (r5.1) t_fault t_faultPlace t_at t_place t_sign t_number t_state t_name t_compared t_open t_parentheses (r5.2)) := hD
  refine lv_aload_n hx hb dX5_takeOpening_47 rfl (lv_at hl 0 rfl) ?_
  refine lv_iconst (v := (0 : Int32)) hx hb dX5_takeOpening_48 (by decide) ?_
  refine va_put (D := D) (ci := 5) (v := .int (0 : Int32)) (ty := .int) (C := RX5) (T := TX5) (N := 17) hx hb hts in_X5_takeOpening_X5 tyX5 tyX5_ok nmX5 hown hK hP hD hS 0 rfl rfl 12 (by decide) (hts (.fieldLink RX5 50 "DivisionHall$Reader" "state" "I") (by decide +kernel)) (fun _ h9 => h9) rfl (by decide +kernel) rfl rfl (Nat.le_of_ble_eq_true rfl) dX5_takeOpening_49 (fun H locs hP hD hS => ?_)
  have hP : va_P D vwCl (wd_X5_takeOpening cI cZ cR a_t a_t_text a_t_code a_t_waiting t_length t_codes (r5.1) t_fault t_faultPlace t_at t_place t_sign t_number (0 : Int32) t_name t_compared t_open t_parentheses (r5.2)) H := hP
  have hD : va_D A (wd_X5_takeOpening cI cZ cR a_t a_t_text a_t_code a_t_waiting t_length t_codes (r5.1) t_fault t_faultPlace t_at t_place t_sign t_number (0 : Int32) t_name t_compared t_open t_parentheses (r5.2)) := hD
  cases hf
  exact retv X hK hP hD hS dX5_takeOpening_52
set_option maxHeartbeats 4000000 in
set_option maxRecDepth 100000 in
theorem c_X5_takeOpening (l : Launch) (D : va_G) (cI cZ cR : ClassId) {a_t a_t_text a_t_code a_t_waiting : Nat} {t_length : Int32} {t_codes : Int32} {t_waits : Int32} {t_fault : Int32} {t_faultPlace : Int32} {t_at : Int32} {t_place : Int32} {t_sign : Int32} {t_number : Int32} {t_state : Int32} {t_name : Int32} {t_compared : Int32} {t_open : Int32} {t_parentheses : Int32} {t_waiting_r : Nat → Int32} {sz : Nat} {out : Int32 × Int32 × Int32 × Int32 × Int32 × Int32 × (Nat → Int32)} (hf : F_X5_takeOpening t_fault t_faultPlace t_open t_parentheses t_place t_sign t_state t_waits t_waiting_r = some out) : CV l yX5_takeOpening wsX5_takeOpening ({ frames := 2, cells := 0, slots := 0, locals := 41 } : Room) D cI cZ cR [.ref a_t] (wd_X5_takeOpening cI cZ cR a_t a_t_text a_t_code a_t_waiting t_length t_codes t_waits t_fault t_faultPlace t_at t_place t_sign t_number t_state t_name t_compared t_open t_parentheses t_waiting_r) sz (wd_X5_takeOpening cI cZ cR a_t a_t_text a_t_code a_t_waiting t_length t_codes (out.2.2.2.2.2.1) (out.1) (out.2.1) t_at t_place t_sign t_number (out.2.2.2.2.1) t_name t_compared (out.2.2.1) (out.2.2.2.1) (out.2.2.2.2.2.2)) := by
  refine met_of (Qf := fun A => qv D cI cZ cR A (wd_X5_takeOpening cI cZ cR a_t a_t_text a_t_code a_t_waiting t_length t_codes (out.2.2.2.2.2.1) (out.1) (out.2.1) t_at t_place t_sign t_number (out.2.2.2.2.1) t_name t_compared (out.2.2.1) (out.2.2.2.1) (out.2.2.2.2.2.2))) RX5 (by decide +kernel) rfl rfl (Nat.le_of_ble_eq_true rfl) ?_
  intro p e s m below meth c A X hK hA hP hD hS ls hl
  have hl : lv_has ls 1 [(0, .ref a_t)] := hl
  obtain ⟨hx, hb, hml, hr, hown, hts, hlocks, hN⟩ := id X
  unfold F_X5_takeOpening at hf
  refine lv_aload_n hx hb dX5_takeOpening_0 rfl (lv_at hl 0 rfl) ?_
  refine va_get (D := D) (ci := 5) (v := .int t_open) (C := RX5) (T := TX5) (N := 17) hx hb hts in_X5_takeOpening_X5 hown hK hP 0 rfl rfl 15 (by decide) (hts (.fieldLink RX5 44 "DivisionHall$Reader" "open" "I") (by decide +kernel)) (fun _ h9 => h9) rfl dX5_takeOpening_1 ?_
  refine lv_bipush (v := (8 : Int32)) hx hb dX5_takeOpening_4 (by decide) ?_
  refine lv_icmp_lt (tgt := 15) hx hb dX5_takeOpening_6 (by decide) (fun c1 => ?_) (fun c1 => ?_)
  · have hf := ipos c1 hf
    refine lv_aload_n hx hb dX5_takeOpening_15 rfl (lv_at hl 0 rfl) ?_
    refine lv_dup hx hb dX5_takeOpening_16 rfl ?_
    refine va_get (D := D) (ci := 5) (v := .int t_open) (C := RX5) (T := TX5) (N := 17) hx hb hts in_X5_takeOpening_X5 hown hK hP 0 rfl rfl 15 (by decide) (hts (.fieldLink RX5 44 "DivisionHall$Reader" "open" "I") (by decide +kernel)) (fun _ h9 => h9) rfl dX5_takeOpening_17 ?_
    refine lv_iconst (v := (1 : Int32)) hx hb dX5_takeOpening_20 (by decide) ?_
    refine lv_iadd hx hb dX5_takeOpening_21 ?_
    refine va_put (D := D) (ci := 5) (v := .int (t_open + (1 : Int32))) (ty := .int) (C := RX5) (T := TX5) (N := 17) hx hb hts in_X5_takeOpening_X5 tyX5 tyX5_ok nmX5 hown hK hP hD hS 0 rfl rfl 15 (by decide) (hts (.fieldLink RX5 44 "DivisionHall$Reader" "open" "I") (by decide +kernel)) (fun _ h9 => h9) rfl (by decide +kernel) rfl rfl (Nat.le_of_ble_eq_true rfl) dX5_takeOpening_22 (fun H locs hP hD hS => ?_)
    have hP : va_P D vwCl (wd_X5_takeOpening cI cZ cR a_t a_t_text a_t_code a_t_waiting t_length t_codes t_waits t_fault t_faultPlace t_at t_place t_sign t_number t_state t_name t_compared (t_open + (1 : Int32)) t_parentheses t_waiting_r) H := hP
    have hD : va_D A (wd_X5_takeOpening cI cZ cR a_t a_t_text a_t_code a_t_waiting t_length t_codes t_waits t_fault t_faultPlace t_at t_place t_sign t_number t_state t_name t_compared (t_open + (1 : Int32)) t_parentheses t_waiting_r) := hD
    refine lv_aload_n hx hb dX5_takeOpening_25 rfl (lv_at hl 0 rfl) ?_
    refine va_get (D := D) (ci := 5) (v := .int t_sign) (C := RX5) (T := TX5) (N := 17) hx hb hts in_X5_takeOpening_X5 hown hK hP 0 rfl rfl 10 (by decide) (hts (.fieldLink RX5 64 "DivisionHall$Reader" "sign" "I") (by decide +kernel)) (fun _ h9 => h9) rfl dX5_takeOpening_26 ?_
    refine lv_iconst (v := (3 : Int32)) hx hb dX5_takeOpening_29 (by decide) ?_
    refine lv_icmp_ne (tgt := 43) hx hb dX5_takeOpening_30 (by decide) (fun c2 => ?_) (fun c2 => ?_)
    · have hf := ineg c2 hf
      exact w_X5_takeOpening_43 X hK hA t_fault t_faultPlace (t_open + (1 : Int32)) t_parentheses t_state t_waits t_waiting_r hf _ _ hP hD hS _ (lv_sub hl [0] rfl)
    · have hf := ipos c2 hf
      refine lv_aload_n hx hb dX5_takeOpening_33 rfl (lv_at hl 0 rfl) ?_
      refine lv_dup hx hb dX5_takeOpening_34 rfl ?_
      refine va_get (D := D) (ci := 5) (v := .int t_parentheses) (C := RX5) (T := TX5) (N := 17) hx hb hts in_X5_takeOpening_X5 hown hK hP 0 rfl rfl 16 (by decide) (hts (.fieldLink RX5 47 "DivisionHall$Reader" "parentheses" "I") (by decide +kernel)) (fun _ h9 => h9) rfl dX5_takeOpening_35 ?_
      refine lv_iconst (v := (1 : Int32)) hx hb dX5_takeOpening_38 (by decide) ?_
      refine lv_iadd hx hb dX5_takeOpening_39 ?_
      refine va_put (D := D) (ci := 5) (v := .int (t_parentheses + (1 : Int32))) (ty := .int) (C := RX5) (T := TX5) (N := 17) hx hb hts in_X5_takeOpening_X5 tyX5 tyX5_ok nmX5 hown hK hP hD hS 0 rfl rfl 16 (by decide) (hts (.fieldLink RX5 47 "DivisionHall$Reader" "parentheses" "I") (by decide +kernel)) (fun _ h9 => h9) rfl (by decide +kernel) rfl rfl (Nat.le_of_ble_eq_true rfl) dX5_takeOpening_40 (fun H locs hP hD hS => ?_)
      have hP : va_P D vwCl (wd_X5_takeOpening cI cZ cR a_t a_t_text a_t_code a_t_waiting t_length t_codes t_waits t_fault t_faultPlace t_at t_place t_sign t_number t_state t_name t_compared (t_open + (1 : Int32)) (t_parentheses + (1 : Int32)) t_waiting_r) H := hP
      have hD : va_D A (wd_X5_takeOpening cI cZ cR a_t a_t_text a_t_code a_t_waiting t_length t_codes t_waits t_fault t_faultPlace t_at t_place t_sign t_number t_state t_name t_compared (t_open + (1 : Int32)) (t_parentheses + (1 : Int32)) t_waiting_r) := hD
      exact w_X5_takeOpening_43 X hK hA t_fault t_faultPlace (t_open + (1 : Int32)) (t_parentheses + (1 : Int32)) t_state t_waits t_waiting_r hf _ _ hP hD hS _ (lv_sub hl [0] rfl)
  · have hf := ineg c1 hf
    refine lv_aload_n hx hb dX5_takeOpening_9 rfl (lv_at hl 0 rfl) ?_
    refine lv_iconst (v := (3 : Int32)) hx hb dX5_takeOpening_10 (by decide) ?_
    obtain ⟨r3, hr4, hf⟩ := bnd hf
    refine wcallv (D := D) (cI := cI) (cZ := cZ) (cR := cR) (wc := (wd_X5_stop cI cZ cR a_t a_t_text a_t_code a_t_waiting t_length t_codes t_waits t_fault t_faultPlace t_at t_place t_sign t_number t_state t_name t_compared t_open t_parentheses)) (w' := (wd_X5_stop cI cZ cR a_t a_t_text a_t_code a_t_waiting t_length t_codes t_waits (r3.1) (r3.2.1) t_at t_place t_sign t_number (r3.2.2) t_name t_compared t_open t_parentheses)) [0] hP hD hS hA rfl rfl rfl (rnV (As := [.int (3 : Int32)]) (ci := 5) (q0 := 0) X [0] hK hP hD rfl rfl rfl rfl (c_X5_stop l D cI cZ cR hr4) (cwV 1 hts gX5_takeOpening_X5_stop rfl rfl rfl (by decide +kernel) ⟨Nat.le_of_ble_eq_true rfl, Nat.le_of_ble_eq_true rfl⟩) rfl hl.1 rfl (Nat.le_of_ble_eq_true rfl) dX5_takeOpening_11) (fun H locs hP hD hS => ?_)
    have hP : va_P D vwCl (wd_X5_takeOpening cI cZ cR a_t a_t_text a_t_code a_t_waiting t_length t_codes t_waits (r3.1) (r3.2.1) t_at t_place t_sign t_number (r3.2.2) t_name t_compared t_open t_parentheses t_waiting_r) H := hP
    have hD : va_D A (wd_X5_takeOpening cI cZ cR a_t a_t_text a_t_code a_t_waiting t_length t_codes t_waits (r3.1) (r3.2.1) t_at t_place t_sign t_number (r3.2.2) t_name t_compared t_open t_parentheses t_waiting_r) := hD
    cases hf
    exact retv X hK hP hD hS dX5_takeOpening_14

abbrev wd_X5_takeUnit (cI cZ cR : ClassId) (a_t a_t_text a_t_code a_t_waiting : Nat) (t_length t_codes t_waits t_fault t_faultPlace t_at t_place t_sign t_number t_state t_name t_compared t_open t_parentheses : Int32) (t_code_r : Nat → Int32) : va_W := [(a_t, oB 5 [.ref a_t_text, .ref a_t_code, .ref a_t_waiting, .int t_length, .int t_codes, .int t_waits, .int t_fault, .int t_faultPlace, .int t_at, .int t_place, .int t_sign, .int t_number, .int t_state, .int t_name, .int t_compared, .int t_open, .int t_parentheses]), (a_t_code, aI cI 400 t_code_r)]
def F_X5_takeUnit_18 (t_number : Int32) (t_place : Int32) (t_sign : Int32) (t_codes : Int32) (t_fault : Int32) (t_faultPlace : Int32) (t_name : Int32) (t_state : Int32) (t_code_r : Nat → Int32) : Option (Int32 × Int32 × Int32 × Int32 × Int32 × (Nat → Int32)) := (some (t_codes, t_fault, t_faultPlace, t_sign, (3 : Int32), t_code_r))
def F_X5_takeUnit_61 (t_number : Int32) (t_place : Int32) (t_sign : Int32) (t_codes : Int32) (t_fault : Int32) (t_faultPlace : Int32) (t_name : Int32) (t_state : Int32) (t_code_r : Nat → Int32) : Option (Int32 × Int32 × Int32 × Int32 × Int32 × (Nat → Int32)) := ((F_X5_emit t_sign t_number t_codes t_code_r).bind (fun r8 => (some ((r8.1), t_fault, t_faultPlace, t_name, (4 : Int32), (r8.2)))))
def F_X5_takeUnit (t_codes : Int32) (t_fault : Int32) (t_faultPlace : Int32) (t_name : Int32) (t_number : Int32) (t_place : Int32) (t_sign : Int32) (t_state : Int32) (t_code_r : Nat → Int32) : Option (Int32 × Int32 × Int32 × Int32 × Int32 × (Nat → Int32)) := (if t_sign = (7 : Int32) then (F_X5_takeUnit_18 t_number t_place t_sign t_codes t_fault t_faultPlace t_name t_state t_code_r) else (if t_sign = (8 : Int32) then (F_X5_takeUnit_18 t_number t_place t_sign t_codes t_fault t_faultPlace t_name t_state t_code_r) else (if t_sign = (6 : Int32) then (F_X5_takeUnit_61 t_number t_place t_sign t_codes t_fault t_faultPlace t_name t_state t_code_r) else (if t_sign = (9 : Int32) then (F_X5_takeUnit_61 t_number t_place t_sign t_codes t_fault t_faultPlace t_name t_state t_code_r) else (if t_sign = (10 : Int32) then (F_X5_takeUnit_61 t_number t_place t_sign t_codes t_fault t_faultPlace t_name t_state t_code_r) else ((F_X5_stop (1 : Int32) t_fault t_faultPlace t_place t_state).bind (fun r6 => (some (t_codes, (r6.1), (r6.2.1), t_name, (r6.2.2), t_code_r)))))))))
set_option maxRecDepth 100000 in
theorem in_X5_takeUnit_X5 : ∀ w ∈ wsX50, w ∈ wsX5_takeUnit := by decide +kernel
set_option maxHeartbeats 4000000 in
set_option maxRecDepth 100000 in
theorem w_X5_takeUnit_18 {p : Program} {l : Launch} {e : Env} {s : State} {m : MethodId} {args : Array Value} {below : List Frame} {meth : Method} {c : Code} {D : va_G} {cI cZ cR : ClassId} {A : Nat → Prop} {a_t a_t_text a_t_code a_t_waiting : Nat} {t_length : Int32} {t_waits : Int32} {t_at : Int32} {t_place : Int32} {t_sign : Int32} {t_number : Int32} {t_compared : Int32} {t_open : Int32} {t_parentheses : Int32} {out : Int32 × Int32 × Int32 × Int32 × Int32 × (Nat → Int32)} (X : cx p s m args meth c cX5_takeUnit 1 none RX5 wsX5_takeUnit) (hK : va_K D vwCl (ty3 cI cZ cR) s) (hA : ∀ q, s.heap.size ≤ q → A q) : ∀ (t_codes : Int32) (t_fault : Int32) (t_faultPlace : Int32) (t_name : Int32) (t_state : Int32) (t_code_r : Nat → Int32), F_X5_takeUnit_18 t_number t_place t_sign t_codes t_fault t_faultPlace t_name t_state t_code_r = some out → ∀ (H : Heap) (locs : List Loc), va_P D vwCl (wd_X5_takeUnit cI cZ cR a_t a_t_text a_t_code a_t_waiting t_length t_codes t_waits t_fault t_faultPlace t_at t_place t_sign t_number t_state t_name t_compared t_open t_parentheses t_code_r) H → va_D A (wd_X5_takeUnit cI cZ cR a_t a_t_text a_t_code a_t_waiting t_length t_codes t_waits t_fault t_faultPlace t_at t_place t_sign t_number t_state t_name t_compared t_open t_parentheses t_code_r) → va_S A s.heap H locs → ∀ (ls : Array Slot), lv_has ls 1 [(0, .ref a_t)] → W p l e (headSpec wsX5_takeUnit ({ frames := 2, cells := 0, slots := 0, locals := 43 } : Room)).room s m args below meth c H locs 0 0 (MQ below (qv D cI cZ cR A (wd_X5_takeUnit cI cZ cR a_t a_t_text a_t_code a_t_waiting t_length (out.1) t_waits (out.2.1) (out.2.2.1) t_at t_place t_sign t_number (out.2.2.2.2.1) (out.2.2.2.1) t_compared t_open t_parentheses (out.2.2.2.2.2))) args s 0 0 A) (F0 m 18 ls []) := by
  obtain ⟨hx, hb, hml, hr, hown, hts, hlocks, hN⟩ := id X
  intro t_codes t_fault t_faultPlace t_name t_state t_code_r hf H locs hP hD hS ls hl
  unfold F_X5_takeUnit_18 at hf
  refine lv_aload_n hx hb dX5_takeUnit_18 rfl (lv_at hl 0 rfl) ?_
  refine lv_aload_n hx hb dX5_takeUnit_19 rfl (lv_at hl 0 rfl) ?_
  refine va_get (D := D) (ci := 5) (v := .int t_sign) (C := RX5) (T := TX5) (N := 17) hx hb hts in_X5_takeUnit_X5 hown hK hP 0 rfl rfl 10 (by decide) (hts (.fieldLink RX5 64 "DivisionHall$Reader" "sign" "I") (by decide +kernel)) (fun _ h9 => h9) rfl dX5_takeUnit_20 ?_
  refine va_put (D := D) (ci := 5) (v := .int t_sign) (ty := .int) (C := RX5) (T := TX5) (N := 17) hx hb hts in_X5_takeUnit_X5 tyX5 tyX5_ok nmX5 hown hK hP hD hS 0 rfl rfl 13 (by decide) (hts (.fieldLink RX5 118 "DivisionHall$Reader" "name" "I") (by decide +kernel)) (fun _ h9 => h9) rfl (by decide +kernel) rfl rfl (Nat.le_of_ble_eq_true rfl) dX5_takeUnit_23 (fun H locs hP hD hS => ?_)
  have hP : va_P D vwCl (wd_X5_takeUnit cI cZ cR a_t a_t_text a_t_code a_t_waiting t_length t_codes t_waits t_fault t_faultPlace t_at t_place t_sign t_number t_state t_sign t_compared t_open t_parentheses t_code_r) H := hP
  have hD : va_D A (wd_X5_takeUnit cI cZ cR a_t a_t_text a_t_code a_t_waiting t_length t_codes t_waits t_fault t_faultPlace t_at t_place t_sign t_number t_state t_sign t_compared t_open t_parentheses t_code_r) := hD
  refine lv_aload_n hx hb dX5_takeUnit_26 rfl (lv_at hl 0 rfl) ?_
  refine lv_iconst (v := (3 : Int32)) hx hb dX5_takeUnit_27 (by decide) ?_
  refine va_put (D := D) (ci := 5) (v := .int (3 : Int32)) (ty := .int) (C := RX5) (T := TX5) (N := 17) hx hb hts in_X5_takeUnit_X5 tyX5 tyX5_ok nmX5 hown hK hP hD hS 0 rfl rfl 12 (by decide) (hts (.fieldLink RX5 50 "DivisionHall$Reader" "state" "I") (by decide +kernel)) (fun _ h9 => h9) rfl (by decide +kernel) rfl rfl (Nat.le_of_ble_eq_true rfl) dX5_takeUnit_28 (fun H locs hP hD hS => ?_)
  have hP : va_P D vwCl (wd_X5_takeUnit cI cZ cR a_t a_t_text a_t_code a_t_waiting t_length t_codes t_waits t_fault t_faultPlace t_at t_place t_sign t_number (3 : Int32) t_sign t_compared t_open t_parentheses t_code_r) H := hP
  have hD : va_D A (wd_X5_takeUnit cI cZ cR a_t a_t_text a_t_code a_t_waiting t_length t_codes t_waits t_fault t_faultPlace t_at t_place t_sign t_number (3 : Int32) t_sign t_compared t_open t_parentheses t_code_r) := hD
  refine lv_goto (tgt := 86) hx hb dX5_takeUnit_31 (by decide) ?_
  cases hf
  exact retv X hK hP hD hS dX5_takeUnit_86
set_option maxHeartbeats 4000000 in
set_option maxRecDepth 100000 in
theorem w_X5_takeUnit_61 {p : Program} {l : Launch} {e : Env} {s : State} {m : MethodId} {args : Array Value} {below : List Frame} {meth : Method} {c : Code} {D : va_G} {cI cZ cR : ClassId} {A : Nat → Prop} {a_t a_t_text a_t_code a_t_waiting : Nat} {t_length : Int32} {t_waits : Int32} {t_at : Int32} {t_place : Int32} {t_sign : Int32} {t_number : Int32} {t_compared : Int32} {t_open : Int32} {t_parentheses : Int32} {out : Int32 × Int32 × Int32 × Int32 × Int32 × (Nat → Int32)} (X : cx p s m args meth c cX5_takeUnit 1 none RX5 wsX5_takeUnit) (hK : va_K D vwCl (ty3 cI cZ cR) s) (hA : ∀ q, s.heap.size ≤ q → A q) : ∀ (t_codes : Int32) (t_fault : Int32) (t_faultPlace : Int32) (t_name : Int32) (t_state : Int32) (t_code_r : Nat → Int32), F_X5_takeUnit_61 t_number t_place t_sign t_codes t_fault t_faultPlace t_name t_state t_code_r = some out → ∀ (H : Heap) (locs : List Loc), va_P D vwCl (wd_X5_takeUnit cI cZ cR a_t a_t_text a_t_code a_t_waiting t_length t_codes t_waits t_fault t_faultPlace t_at t_place t_sign t_number t_state t_name t_compared t_open t_parentheses t_code_r) H → va_D A (wd_X5_takeUnit cI cZ cR a_t a_t_text a_t_code a_t_waiting t_length t_codes t_waits t_fault t_faultPlace t_at t_place t_sign t_number t_state t_name t_compared t_open t_parentheses t_code_r) → va_S A s.heap H locs → ∀ (ls : Array Slot), lv_has ls 1 [(0, .ref a_t)] → W p l e (headSpec wsX5_takeUnit ({ frames := 2, cells := 0, slots := 0, locals := 43 } : Room)).room s m args below meth c H locs 0 0 (MQ below (qv D cI cZ cR A (wd_X5_takeUnit cI cZ cR a_t a_t_text a_t_code a_t_waiting t_length (out.1) t_waits (out.2.1) (out.2.2.1) t_at t_place t_sign t_number (out.2.2.2.2.1) (out.2.2.2.1) t_compared t_open t_parentheses (out.2.2.2.2.2))) args s 0 0 A) (F0 m 61 ls []) := by
  obtain ⟨hx, hb, hml, hr, hown, hts, hlocks, hN⟩ := id X
  intro t_codes t_fault t_faultPlace t_name t_state t_code_r hf H locs hP hD hS ls hl
  unfold F_X5_takeUnit_61 at hf
  refine lv_aload_n hx hb dX5_takeUnit_61 rfl (lv_at hl 0 rfl) ?_
  refine lv_aload_n hx hb dX5_takeUnit_62 rfl (lv_at hl 0 rfl) ?_
  refine va_get (D := D) (ci := 5) (v := .int t_sign) (C := RX5) (T := TX5) (N := 17) hx hb hts in_X5_takeUnit_X5 hown hK hP 0 rfl rfl 10 (by decide) (hts (.fieldLink RX5 64 "DivisionHall$Reader" "sign" "I") (by decide +kernel)) (fun _ h9 => h9) rfl dX5_takeUnit_63 ?_
  refine lv_aload_n hx hb dX5_takeUnit_66 rfl (lv_at hl 0 rfl) ?_
  refine va_get (D := D) (ci := 5) (v := .int t_number) (C := RX5) (T := TX5) (N := 17) hx hb hts in_X5_takeUnit_X5 hown hK hP 0 rfl rfl 11 (by decide) (hts (.fieldLink RX5 115 "DivisionHall$Reader" "number" "I") (by decide +kernel)) (fun _ h9 => h9) rfl dX5_takeUnit_67 ?_
  obtain ⟨r8, hr9, hf⟩ := bnd hf
  refine wcallv (D := D) (cI := cI) (cZ := cZ) (cR := cR) (wc := (wd_X5_emit cI cZ cR a_t a_t_text a_t_code a_t_waiting t_length t_codes t_waits t_fault t_faultPlace t_at t_place t_sign t_number t_state t_name t_compared t_open t_parentheses t_code_r)) (w' := (wd_X5_emit cI cZ cR a_t a_t_text a_t_code a_t_waiting t_length (r8.1) t_waits t_fault t_faultPlace t_at t_place t_sign t_number t_state t_name t_compared t_open t_parentheses (r8.2))) [0, 1] hP hD hS hA rfl rfl rfl (rnV (As := [.int t_sign, .int t_number]) (ci := 5) (q0 := 0) X [0, 1] hK hP hD rfl rfl rfl rfl (c_X5_emit l D cI cZ cR hr9) (cwV 2 hts gX5_takeUnit_X5_emit rfl rfl rfl (by decide +kernel) ⟨Nat.le_of_ble_eq_true rfl, Nat.le_of_ble_eq_true rfl⟩) rfl hl.1 rfl (Nat.le_of_ble_eq_true rfl) dX5_takeUnit_70) (fun H locs hP hD hS => ?_)
  have hP : va_P D vwCl (wd_X5_takeUnit cI cZ cR a_t a_t_text a_t_code a_t_waiting t_length (r8.1) t_waits t_fault t_faultPlace t_at t_place t_sign t_number t_state t_name t_compared t_open t_parentheses (r8.2)) H := hP
  have hD : va_D A (wd_X5_takeUnit cI cZ cR a_t a_t_text a_t_code a_t_waiting t_length (r8.1) t_waits t_fault t_faultPlace t_at t_place t_sign t_number t_state t_name t_compared t_open t_parentheses (r8.2)) := hD
  refine lv_aload_n hx hb dX5_takeUnit_73 rfl (lv_at hl 0 rfl) ?_
  refine lv_iconst (v := (4 : Int32)) hx hb dX5_takeUnit_74 (by decide) ?_
  refine va_put (D := D) (ci := 5) (v := .int (4 : Int32)) (ty := .int) (C := RX5) (T := TX5) (N := 17) hx hb hts in_X5_takeUnit_X5 tyX5 tyX5_ok nmX5 hown hK hP hD hS 0 rfl rfl 12 (by decide) (hts (.fieldLink RX5 50 "DivisionHall$Reader" "state" "I") (by decide +kernel)) (fun _ h9 => h9) rfl (by decide +kernel) rfl rfl (Nat.le_of_ble_eq_true rfl) dX5_takeUnit_75 (fun H locs hP hD hS => ?_)
  have hP : va_P D vwCl (wd_X5_takeUnit cI cZ cR a_t a_t_text a_t_code a_t_waiting t_length (r8.1) t_waits t_fault t_faultPlace t_at t_place t_sign t_number (4 : Int32) t_name t_compared t_open t_parentheses (r8.2)) H := hP
  have hD : va_D A (wd_X5_takeUnit cI cZ cR a_t a_t_text a_t_code a_t_waiting t_length (r8.1) t_waits t_fault t_faultPlace t_at t_place t_sign t_number (4 : Int32) t_name t_compared t_open t_parentheses (r8.2)) := hD
  refine lv_goto (tgt := 86) hx hb dX5_takeUnit_78 (by decide) ?_
  cases hf
  exact retv X hK hP hD hS dX5_takeUnit_86
set_option maxHeartbeats 4000000 in
set_option maxRecDepth 100000 in
theorem c_X5_takeUnit (l : Launch) (D : va_G) (cI cZ cR : ClassId) {a_t a_t_text a_t_code a_t_waiting : Nat} {t_length : Int32} {t_codes : Int32} {t_waits : Int32} {t_fault : Int32} {t_faultPlace : Int32} {t_at : Int32} {t_place : Int32} {t_sign : Int32} {t_number : Int32} {t_state : Int32} {t_name : Int32} {t_compared : Int32} {t_open : Int32} {t_parentheses : Int32} {t_code_r : Nat → Int32} {sz : Nat} {out : Int32 × Int32 × Int32 × Int32 × Int32 × (Nat → Int32)} (hf : F_X5_takeUnit t_codes t_fault t_faultPlace t_name t_number t_place t_sign t_state t_code_r = some out) : CV l yX5_takeUnit wsX5_takeUnit ({ frames := 2, cells := 0, slots := 0, locals := 43 } : Room) D cI cZ cR [.ref a_t] (wd_X5_takeUnit cI cZ cR a_t a_t_text a_t_code a_t_waiting t_length t_codes t_waits t_fault t_faultPlace t_at t_place t_sign t_number t_state t_name t_compared t_open t_parentheses t_code_r) sz (wd_X5_takeUnit cI cZ cR a_t a_t_text a_t_code a_t_waiting t_length (out.1) t_waits (out.2.1) (out.2.2.1) t_at t_place t_sign t_number (out.2.2.2.2.1) (out.2.2.2.1) t_compared t_open t_parentheses (out.2.2.2.2.2)) := by
  refine met_of (Qf := fun A => qv D cI cZ cR A (wd_X5_takeUnit cI cZ cR a_t a_t_text a_t_code a_t_waiting t_length (out.1) t_waits (out.2.1) (out.2.2.1) t_at t_place t_sign t_number (out.2.2.2.2.1) (out.2.2.2.1) t_compared t_open t_parentheses (out.2.2.2.2.2))) RX5 (by decide +kernel) rfl rfl (Nat.le_of_ble_eq_true rfl) ?_
  intro p e s m below meth c A X hK hA hP hD hS ls hl
  have hl : lv_has ls 1 [(0, .ref a_t)] := hl
  obtain ⟨hx, hb, hml, hr, hown, hts, hlocks, hN⟩ := id X
  unfold F_X5_takeUnit at hf
  refine lv_aload_n hx hb dX5_takeUnit_0 rfl (lv_at hl 0 rfl) ?_
  refine va_get (D := D) (ci := 5) (v := .int t_sign) (C := RX5) (T := TX5) (N := 17) hx hb hts in_X5_takeUnit_X5 hown hK hP 0 rfl rfl 10 (by decide) (hts (.fieldLink RX5 64 "DivisionHall$Reader" "sign" "I") (by decide +kernel)) (fun _ h9 => h9) rfl dX5_takeUnit_1 ?_
  refine lv_bipush (v := (7 : Int32)) hx hb dX5_takeUnit_4 (by decide) ?_
  refine lv_icmp_eq (tgt := 18) hx hb dX5_takeUnit_6 (by decide) (fun c1 => ?_) (fun c1 => ?_)
  · have hf := ipos c1 hf
    exact w_X5_takeUnit_18 X hK hA t_codes t_fault t_faultPlace t_name t_state t_code_r hf _ _ hP hD hS _ (lv_sub hl [0] rfl)
  · have hf := ineg c1 hf
    refine lv_aload_n hx hb dX5_takeUnit_9 rfl (lv_at hl 0 rfl) ?_
    refine va_get (D := D) (ci := 5) (v := .int t_sign) (C := RX5) (T := TX5) (N := 17) hx hb hts in_X5_takeUnit_X5 hown hK hP 0 rfl rfl 10 (by decide) (hts (.fieldLink RX5 64 "DivisionHall$Reader" "sign" "I") (by decide +kernel)) (fun _ h9 => h9) rfl dX5_takeUnit_10 ?_
    refine lv_bipush (v := (8 : Int32)) hx hb dX5_takeUnit_13 (by decide) ?_
    refine lv_icmp_ne (tgt := 34) hx hb dX5_takeUnit_15 (by decide) (fun c2 => ?_) (fun c2 => ?_)
    · have hf := ineg c2 hf
      refine lv_aload_n hx hb dX5_takeUnit_34 rfl (lv_at hl 0 rfl) ?_
      refine va_get (D := D) (ci := 5) (v := .int t_sign) (C := RX5) (T := TX5) (N := 17) hx hb hts in_X5_takeUnit_X5 hown hK hP 0 rfl rfl 10 (by decide) (hts (.fieldLink RX5 64 "DivisionHall$Reader" "sign" "I") (by decide +kernel)) (fun _ h9 => h9) rfl dX5_takeUnit_35 ?_
      refine lv_bipush (v := (6 : Int32)) hx hb dX5_takeUnit_38 (by decide) ?_
      refine lv_icmp_eq (tgt := 61) hx hb dX5_takeUnit_40 (by decide) (fun c3 => ?_) (fun c3 => ?_)
      · have hf := ipos c3 hf
        exact w_X5_takeUnit_61 X hK hA t_codes t_fault t_faultPlace t_name t_state t_code_r hf _ _ hP hD hS _ (lv_sub hl [0] rfl)
      · have hf := ineg c3 hf
        refine lv_aload_n hx hb dX5_takeUnit_43 rfl (lv_at hl 0 rfl) ?_
        refine va_get (D := D) (ci := 5) (v := .int t_sign) (C := RX5) (T := TX5) (N := 17) hx hb hts in_X5_takeUnit_X5 hown hK hP 0 rfl rfl 10 (by decide) (hts (.fieldLink RX5 64 "DivisionHall$Reader" "sign" "I") (by decide +kernel)) (fun _ h9 => h9) rfl dX5_takeUnit_44 ?_
        refine lv_bipush (v := (9 : Int32)) hx hb dX5_takeUnit_47 (by decide) ?_
        refine lv_icmp_eq (tgt := 61) hx hb dX5_takeUnit_49 (by decide) (fun c4 => ?_) (fun c4 => ?_)
        · have hf := ipos c4 hf
          exact w_X5_takeUnit_61 X hK hA t_codes t_fault t_faultPlace t_name t_state t_code_r hf _ _ hP hD hS _ (lv_sub hl [0] rfl)
        · have hf := ineg c4 hf
          refine lv_aload_n hx hb dX5_takeUnit_52 rfl (lv_at hl 0 rfl) ?_
          refine va_get (D := D) (ci := 5) (v := .int t_sign) (C := RX5) (T := TX5) (N := 17) hx hb hts in_X5_takeUnit_X5 hown hK hP 0 rfl rfl 10 (by decide) (hts (.fieldLink RX5 64 "DivisionHall$Reader" "sign" "I") (by decide +kernel)) (fun _ h9 => h9) rfl dX5_takeUnit_53 ?_
          refine lv_bipush (v := (10 : Int32)) hx hb dX5_takeUnit_56 (by decide) ?_
          refine lv_icmp_ne (tgt := 81) hx hb dX5_takeUnit_58 (by decide) (fun c5 => ?_) (fun c5 => ?_)
          · have hf := ineg c5 hf
            refine lv_aload_n hx hb dX5_takeUnit_81 rfl (lv_at hl 0 rfl) ?_
            refine lv_iconst (v := (1 : Int32)) hx hb dX5_takeUnit_82 (by decide) ?_
            obtain ⟨r6, hr7, hf⟩ := bnd hf
            refine wcallv (D := D) (cI := cI) (cZ := cZ) (cR := cR) (wc := (wd_X5_stop cI cZ cR a_t a_t_text a_t_code a_t_waiting t_length t_codes t_waits t_fault t_faultPlace t_at t_place t_sign t_number t_state t_name t_compared t_open t_parentheses)) (w' := (wd_X5_stop cI cZ cR a_t a_t_text a_t_code a_t_waiting t_length t_codes t_waits (r6.1) (r6.2.1) t_at t_place t_sign t_number (r6.2.2) t_name t_compared t_open t_parentheses)) [0] hP hD hS hA rfl rfl rfl (rnV (As := [.int (1 : Int32)]) (ci := 5) (q0 := 0) X [0] hK hP hD rfl rfl rfl rfl (c_X5_stop l D cI cZ cR hr7) (cwV 1 hts gX5_takeUnit_X5_stop rfl rfl rfl (by decide +kernel) ⟨Nat.le_of_ble_eq_true rfl, Nat.le_of_ble_eq_true rfl⟩) rfl hl.1 rfl (Nat.le_of_ble_eq_true rfl) dX5_takeUnit_83) (fun H locs hP hD hS => ?_)
            have hP : va_P D vwCl (wd_X5_takeUnit cI cZ cR a_t a_t_text a_t_code a_t_waiting t_length t_codes t_waits (r6.1) (r6.2.1) t_at t_place t_sign t_number (r6.2.2) t_name t_compared t_open t_parentheses t_code_r) H := hP
            have hD : va_D A (wd_X5_takeUnit cI cZ cR a_t a_t_text a_t_code a_t_waiting t_length t_codes t_waits (r6.1) (r6.2.1) t_at t_place t_sign t_number (r6.2.2) t_name t_compared t_open t_parentheses t_code_r) := hD
            cases hf
            exact retv X hK hP hD hS dX5_takeUnit_86
          · have hf := ipos c5 hf
            exact w_X5_takeUnit_61 X hK hA t_codes t_fault t_faultPlace t_name t_state t_code_r hf _ _ hP hD hS _ (lv_sub hl [0] rfl)
    · have hf := ipos c2 hf
      exact w_X5_takeUnit_18 X hK hA t_codes t_fault t_faultPlace t_name t_state t_code_r hf _ _ hP hD hS _ (lv_sub hl [0] rfl)

abbrev wd_X5_takeClause (cI cZ cR : ClassId) (a_t a_t_text a_t_code a_t_waiting : Nat) (t_length t_codes t_waits t_fault t_faultPlace t_at t_place t_sign t_number t_state t_name t_compared t_open t_parentheses : Int32) (t_code_r : Nat → Int32) (t_waiting_r : Nat → Int32) : va_W := [(a_t, oB 5 [.ref a_t_text, .ref a_t_code, .ref a_t_waiting, .int t_length, .int t_codes, .int t_waits, .int t_fault, .int t_faultPlace, .int t_at, .int t_place, .int t_sign, .int t_number, .int t_state, .int t_name, .int t_compared, .int t_open, .int t_parentheses]), (a_t_code, aI cI 400 t_code_r), (a_t_waiting, aI cI 40 t_waiting_r)]
def F_X5_takeClause (t_codes : Int32) (t_compared : Int32) (t_fault : Int32) (t_faultPlace : Int32) (t_name : Int32) (t_number : Int32) (t_open : Int32) (t_parentheses : Int32) (t_place : Int32) (t_sign : Int32) (t_state : Int32) (t_waits : Int32) (t_code_r : Nat → Int32) (t_waiting_r : Nat → Int32) : Option (Int32 × Int32 × Int32 × Int32 × Int32 × Int32 × Int32 × Int32 × Int32 × (Nat → Int32) × (Nat → Int32)) := (if t_sign = (14 : Int32) then ((F_X5_takeOpening t_fault t_faultPlace t_open t_parentheses t_place t_sign t_state t_waits t_waiting_r).bind (fun r2 => (some (t_codes, t_compared, (r2.1), (r2.2.1), t_name, (r2.2.2.1), (r2.2.2.2.1), (r2.2.2.2.2.1), (r2.2.2.2.2.2.1), t_code_r, (r2.2.2.2.2.2.2))))) else (if t_sign = (3 : Int32) then ((F_X5_takeOpening t_fault t_faultPlace t_open t_parentheses t_place t_sign t_state t_waits t_waiting_r).bind (fun r8 => (some (t_codes, t_compared, (r8.1), (r8.2.1), t_name, (r8.2.2.1), (r8.2.2.2.1), (r8.2.2.2.2.1), (r8.2.2.2.2.2.1), t_code_r, (r8.2.2.2.2.2.2))))) else (if t_sign = (11 : Int32) then (some (t_codes, t_compared, t_fault, t_faultPlace, (11 : Int32), t_open, t_parentheses, (2 : Int32), t_waits, t_code_r, t_waiting_r)) else ((F_X5_takeUnit t_codes t_fault t_faultPlace t_name t_number t_place t_sign t_state t_code_r).bind (fun r6 => (some ((r6.1), (0 : Int32), (r6.2.1), (r6.2.2.1), (r6.2.2.2.1), t_open, t_parentheses, (r6.2.2.2.2.1), t_waits, (r6.2.2.2.2.2), t_waiting_r)))))))
set_option maxRecDepth 100000 in
theorem in_X5_takeClause_X5 : ∀ w ∈ wsX50, w ∈ wsX5_takeClause := by decide +kernel
set_option maxHeartbeats 4000000 in
set_option maxRecDepth 100000 in
theorem c_X5_takeClause (l : Launch) (D : va_G) (cI cZ cR : ClassId) {a_t a_t_text a_t_code a_t_waiting : Nat} {t_length : Int32} {t_codes : Int32} {t_waits : Int32} {t_fault : Int32} {t_faultPlace : Int32} {t_at : Int32} {t_place : Int32} {t_sign : Int32} {t_number : Int32} {t_state : Int32} {t_name : Int32} {t_compared : Int32} {t_open : Int32} {t_parentheses : Int32} {t_code_r : Nat → Int32} {t_waiting_r : Nat → Int32} {sz : Nat} {out : Int32 × Int32 × Int32 × Int32 × Int32 × Int32 × Int32 × Int32 × Int32 × (Nat → Int32) × (Nat → Int32)} (hf : F_X5_takeClause t_codes t_compared t_fault t_faultPlace t_name t_number t_open t_parentheses t_place t_sign t_state t_waits t_code_r t_waiting_r = some out) : CV l yX5_takeClause wsX5_takeClause ({ frames := 3, cells := 0, slots := 0, locals := 63 } : Room) D cI cZ cR [.ref a_t] (wd_X5_takeClause cI cZ cR a_t a_t_text a_t_code a_t_waiting t_length t_codes t_waits t_fault t_faultPlace t_at t_place t_sign t_number t_state t_name t_compared t_open t_parentheses t_code_r t_waiting_r) sz (wd_X5_takeClause cI cZ cR a_t a_t_text a_t_code a_t_waiting t_length (out.1) (out.2.2.2.2.2.2.2.2.1) (out.2.2.1) (out.2.2.2.1) t_at t_place t_sign t_number (out.2.2.2.2.2.2.2.1) (out.2.2.2.2.1) (out.2.1) (out.2.2.2.2.2.1) (out.2.2.2.2.2.2.1) (out.2.2.2.2.2.2.2.2.2.1) (out.2.2.2.2.2.2.2.2.2.2)) := by
  refine met_of (Qf := fun A => qv D cI cZ cR A (wd_X5_takeClause cI cZ cR a_t a_t_text a_t_code a_t_waiting t_length (out.1) (out.2.2.2.2.2.2.2.2.1) (out.2.2.1) (out.2.2.2.1) t_at t_place t_sign t_number (out.2.2.2.2.2.2.2.1) (out.2.2.2.2.1) (out.2.1) (out.2.2.2.2.2.1) (out.2.2.2.2.2.2.1) (out.2.2.2.2.2.2.2.2.2.1) (out.2.2.2.2.2.2.2.2.2.2))) RX5 (by decide +kernel) rfl rfl (Nat.le_of_ble_eq_true rfl) ?_
  intro p e s m below meth c A X hK hA hP hD hS ls hl
  have hl : lv_has ls 1 [(0, .ref a_t)] := hl
  obtain ⟨hx, hb, hml, hr, hown, hts, hlocks, hN⟩ := id X
  unfold F_X5_takeClause at hf
  refine lv_aload_n hx hb dX5_takeClause_0 rfl (lv_at hl 0 rfl) ?_
  refine va_get (D := D) (ci := 5) (v := .int t_sign) (C := RX5) (T := TX5) (N := 17) hx hb hts in_X5_takeClause_X5 hown hK hP 0 rfl rfl 10 (by decide) (hts (.fieldLink RX5 64 "DivisionHall$Reader" "sign" "I") (by decide +kernel)) (fun _ h9 => h9) rfl dX5_takeClause_1 ?_
  refine lv_bipush (v := (14 : Int32)) hx hb dX5_takeClause_4 (by decide) ?_
  refine lv_icmp_eq (tgt := 17) hx hb dX5_takeClause_6 (by decide) (fun c1 => ?_) (fun c1 => ?_)
  · have hf := ipos c1 hf
    refine lv_aload_n hx hb dX5_takeClause_17 rfl (lv_at hl 0 rfl) ?_
    obtain ⟨r2, hr3, hf⟩ := bnd hf
    refine wcallv (D := D) (cI := cI) (cZ := cZ) (cR := cR) (wc := (wd_X5_takeOpening cI cZ cR a_t a_t_text a_t_code a_t_waiting t_length t_codes t_waits t_fault t_faultPlace t_at t_place t_sign t_number t_state t_name t_compared t_open t_parentheses t_waiting_r)) (w' := (wd_X5_takeOpening cI cZ cR a_t a_t_text a_t_code a_t_waiting t_length t_codes (r2.2.2.2.2.2.1) (r2.1) (r2.2.1) t_at t_place t_sign t_number (r2.2.2.2.2.1) t_name t_compared (r2.2.2.1) (r2.2.2.2.1) (r2.2.2.2.2.2.2))) [0, 2] hP hD hS hA rfl rfl rfl (rnV (As := []) (ci := 5) (q0 := 0) X [0, 2] hK hP hD rfl rfl rfl rfl (c_X5_takeOpening l D cI cZ cR hr3) (cwV 0 hts gX5_takeClause_X5_takeOpening rfl rfl rfl (by decide +kernel) ⟨Nat.le_of_ble_eq_true rfl, Nat.le_of_ble_eq_true rfl⟩) rfl hl.1 rfl (Nat.le_of_ble_eq_true rfl) dX5_takeClause_18) (fun H locs hP hD hS => ?_)
    have hP : va_P D vwCl (wd_X5_takeClause cI cZ cR a_t a_t_text a_t_code a_t_waiting t_length t_codes (r2.2.2.2.2.2.1) (r2.1) (r2.2.1) t_at t_place t_sign t_number (r2.2.2.2.2.1) t_name t_compared (r2.2.2.1) (r2.2.2.2.1) t_code_r (r2.2.2.2.2.2.2)) H := hP
    have hD : va_D A (wd_X5_takeClause cI cZ cR a_t a_t_text a_t_code a_t_waiting t_length t_codes (r2.2.2.2.2.2.1) (r2.1) (r2.2.1) t_at t_place t_sign t_number (r2.2.2.2.2.1) t_name t_compared (r2.2.2.1) (r2.2.2.2.1) t_code_r (r2.2.2.2.2.2.2)) := hD
    refine lv_goto (tgt := 56) hx hb dX5_takeClause_21 (by decide) ?_
    cases hf
    exact retv X hK hP hD hS dX5_takeClause_56
  · have hf := ineg c1 hf
    refine lv_aload_n hx hb dX5_takeClause_9 rfl (lv_at hl 0 rfl) ?_
    refine va_get (D := D) (ci := 5) (v := .int t_sign) (C := RX5) (T := TX5) (N := 17) hx hb hts in_X5_takeClause_X5 hown hK hP 0 rfl rfl 10 (by decide) (hts (.fieldLink RX5 64 "DivisionHall$Reader" "sign" "I") (by decide +kernel)) (fun _ h9 => h9) rfl dX5_takeClause_10 ?_
    refine lv_iconst (v := (3 : Int32)) hx hb dX5_takeClause_13 (by decide) ?_
    refine lv_icmp_ne (tgt := 24) hx hb dX5_takeClause_14 (by decide) (fun c4 => ?_) (fun c4 => ?_)
    · have hf := ineg c4 hf
      refine lv_aload_n hx hb dX5_takeClause_24 rfl (lv_at hl 0 rfl) ?_
      refine va_get (D := D) (ci := 5) (v := .int t_sign) (C := RX5) (T := TX5) (N := 17) hx hb hts in_X5_takeClause_X5 hown hK hP 0 rfl rfl 10 (by decide) (hts (.fieldLink RX5 64 "DivisionHall$Reader" "sign" "I") (by decide +kernel)) (fun _ h9 => h9) rfl dX5_takeClause_25 ?_
      refine lv_bipush (v := (11 : Int32)) hx hb dX5_takeClause_28 (by decide) ?_
      refine lv_icmp_ne (tgt := 47) hx hb dX5_takeClause_30 (by decide) (fun c5 => ?_) (fun c5 => ?_)
      · have hf := ineg c5 hf
        refine lv_aload_n hx hb dX5_takeClause_47 rfl (lv_at hl 0 rfl) ?_
        refine lv_iconst (v := (0 : Int32)) hx hb dX5_takeClause_48 (by decide) ?_
        refine va_put (D := D) (ci := 5) (v := .int (0 : Int32)) (ty := .boolean) (C := RX5) (T := TX5) (N := 17) hx hb hts in_X5_takeClause_X5 tyX5 tyX5_ok nmX5 hown hK hP hD hS 0 rfl rfl 14 (by decide) (hts (.fieldLink RX5 40 "DivisionHall$Reader" "compared" "Z") (by decide +kernel)) (fun _ h9 => h9) rfl (by decide +kernel) rfl rfl (Nat.le_of_ble_eq_true rfl) dX5_takeClause_49 (fun H locs hP hD hS => ?_)
        have hP : va_P D vwCl (wd_X5_takeClause cI cZ cR a_t a_t_text a_t_code a_t_waiting t_length t_codes t_waits t_fault t_faultPlace t_at t_place t_sign t_number t_state t_name (0 : Int32) t_open t_parentheses t_code_r t_waiting_r) H := hP
        have hD : va_D A (wd_X5_takeClause cI cZ cR a_t a_t_text a_t_code a_t_waiting t_length t_codes t_waits t_fault t_faultPlace t_at t_place t_sign t_number t_state t_name (0 : Int32) t_open t_parentheses t_code_r t_waiting_r) := hD
        refine lv_aload_n hx hb dX5_takeClause_52 rfl (lv_at hl 0 rfl) ?_
        obtain ⟨r6, hr7, hf⟩ := bnd hf
        refine wcallv (D := D) (cI := cI) (cZ := cZ) (cR := cR) (wc := (wd_X5_takeUnit cI cZ cR a_t a_t_text a_t_code a_t_waiting t_length t_codes t_waits t_fault t_faultPlace t_at t_place t_sign t_number t_state t_name (0 : Int32) t_open t_parentheses t_code_r)) (w' := (wd_X5_takeUnit cI cZ cR a_t a_t_text a_t_code a_t_waiting t_length (r6.1) t_waits (r6.2.1) (r6.2.2.1) t_at t_place t_sign t_number (r6.2.2.2.2.1) (r6.2.2.2.1) (0 : Int32) t_open t_parentheses (r6.2.2.2.2.2))) [0, 1] hP hD hS hA rfl rfl rfl (rnV (As := []) (ci := 5) (q0 := 0) X [0, 1] hK hP hD rfl rfl rfl rfl (c_X5_takeUnit l D cI cZ cR hr7) (cwV 0 hts gX5_takeClause_X5_takeUnit rfl rfl rfl (by decide +kernel) ⟨Nat.le_of_ble_eq_true rfl, Nat.le_of_ble_eq_true rfl⟩) rfl hl.1 rfl (Nat.le_of_ble_eq_true rfl) dX5_takeClause_53) (fun H locs hP hD hS => ?_)
        have hP : va_P D vwCl (wd_X5_takeClause cI cZ cR a_t a_t_text a_t_code a_t_waiting t_length (r6.1) t_waits (r6.2.1) (r6.2.2.1) t_at t_place t_sign t_number (r6.2.2.2.2.1) (r6.2.2.2.1) (0 : Int32) t_open t_parentheses (r6.2.2.2.2.2) t_waiting_r) H := hP
        have hD : va_D A (wd_X5_takeClause cI cZ cR a_t a_t_text a_t_code a_t_waiting t_length (r6.1) t_waits (r6.2.1) (r6.2.2.1) t_at t_place t_sign t_number (r6.2.2.2.2.1) (r6.2.2.2.1) (0 : Int32) t_open t_parentheses (r6.2.2.2.2.2) t_waiting_r) := hD
        cases hf
        exact retv X hK hP hD hS dX5_takeClause_56
      · have hf := ipos c5 hf
        refine lv_aload_n hx hb dX5_takeClause_33 rfl (lv_at hl 0 rfl) ?_
        refine lv_bipush (v := (11 : Int32)) hx hb dX5_takeClause_34 (by decide) ?_
        refine va_put (D := D) (ci := 5) (v := .int (11 : Int32)) (ty := .int) (C := RX5) (T := TX5) (N := 17) hx hb hts in_X5_takeClause_X5 tyX5 tyX5_ok nmX5 hown hK hP hD hS 0 rfl rfl 13 (by decide) (hts (.fieldLink RX5 118 "DivisionHall$Reader" "name" "I") (by decide +kernel)) (fun _ h9 => h9) rfl (by decide +kernel) rfl rfl (Nat.le_of_ble_eq_true rfl) dX5_takeClause_36 (fun H locs hP hD hS => ?_)
        have hP : va_P D vwCl (wd_X5_takeClause cI cZ cR a_t a_t_text a_t_code a_t_waiting t_length t_codes t_waits t_fault t_faultPlace t_at t_place t_sign t_number t_state (11 : Int32) t_compared t_open t_parentheses t_code_r t_waiting_r) H := hP
        have hD : va_D A (wd_X5_takeClause cI cZ cR a_t a_t_text a_t_code a_t_waiting t_length t_codes t_waits t_fault t_faultPlace t_at t_place t_sign t_number t_state (11 : Int32) t_compared t_open t_parentheses t_code_r t_waiting_r) := hD
        refine lv_aload_n hx hb dX5_takeClause_39 rfl (lv_at hl 0 rfl) ?_
        refine lv_iconst (v := (2 : Int32)) hx hb dX5_takeClause_40 (by decide) ?_
        refine va_put (D := D) (ci := 5) (v := .int (2 : Int32)) (ty := .int) (C := RX5) (T := TX5) (N := 17) hx hb hts in_X5_takeClause_X5 tyX5 tyX5_ok nmX5 hown hK hP hD hS 0 rfl rfl 12 (by decide) (hts (.fieldLink RX5 50 "DivisionHall$Reader" "state" "I") (by decide +kernel)) (fun _ h9 => h9) rfl (by decide +kernel) rfl rfl (Nat.le_of_ble_eq_true rfl) dX5_takeClause_41 (fun H locs hP hD hS => ?_)
        have hP : va_P D vwCl (wd_X5_takeClause cI cZ cR a_t a_t_text a_t_code a_t_waiting t_length t_codes t_waits t_fault t_faultPlace t_at t_place t_sign t_number (2 : Int32) (11 : Int32) t_compared t_open t_parentheses t_code_r t_waiting_r) H := hP
        have hD : va_D A (wd_X5_takeClause cI cZ cR a_t a_t_text a_t_code a_t_waiting t_length t_codes t_waits t_fault t_faultPlace t_at t_place t_sign t_number (2 : Int32) (11 : Int32) t_compared t_open t_parentheses t_code_r t_waiting_r) := hD
        refine lv_goto (tgt := 56) hx hb dX5_takeClause_44 (by decide) ?_
        cases hf
        exact retv X hK hP hD hS dX5_takeClause_56
    · have hf := ipos c4 hf
      refine lv_aload_n hx hb dX5_takeClause_17 rfl (lv_at hl 0 rfl) ?_
      obtain ⟨r8, hr9, hf⟩ := bnd hf
      refine wcallv (D := D) (cI := cI) (cZ := cZ) (cR := cR) (wc := (wd_X5_takeOpening cI cZ cR a_t a_t_text a_t_code a_t_waiting t_length t_codes t_waits t_fault t_faultPlace t_at t_place t_sign t_number t_state t_name t_compared t_open t_parentheses t_waiting_r)) (w' := (wd_X5_takeOpening cI cZ cR a_t a_t_text a_t_code a_t_waiting t_length t_codes (r8.2.2.2.2.2.1) (r8.1) (r8.2.1) t_at t_place t_sign t_number (r8.2.2.2.2.1) t_name t_compared (r8.2.2.1) (r8.2.2.2.1) (r8.2.2.2.2.2.2))) [0, 2] hP hD hS hA rfl rfl rfl (rnV (As := []) (ci := 5) (q0 := 0) X [0, 2] hK hP hD rfl rfl rfl rfl (c_X5_takeOpening l D cI cZ cR hr9) (cwV 0 hts gX5_takeClause_X5_takeOpening rfl rfl rfl (by decide +kernel) ⟨Nat.le_of_ble_eq_true rfl, Nat.le_of_ble_eq_true rfl⟩) rfl hl.1 rfl (Nat.le_of_ble_eq_true rfl) dX5_takeClause_18) (fun H locs hP hD hS => ?_)
      have hP : va_P D vwCl (wd_X5_takeClause cI cZ cR a_t a_t_text a_t_code a_t_waiting t_length t_codes (r8.2.2.2.2.2.1) (r8.1) (r8.2.1) t_at t_place t_sign t_number (r8.2.2.2.2.1) t_name t_compared (r8.2.2.1) (r8.2.2.2.1) t_code_r (r8.2.2.2.2.2.2)) H := hP
      have hD : va_D A (wd_X5_takeClause cI cZ cR a_t a_t_text a_t_code a_t_waiting t_length t_codes (r8.2.2.2.2.2.1) (r8.1) (r8.2.1) t_at t_place t_sign t_number (r8.2.2.2.2.1) t_name t_compared (r8.2.2.1) (r8.2.2.2.1) t_code_r (r8.2.2.2.2.2.2)) := hD
      refine lv_goto (tgt := 56) hx hb dX5_takeClause_21 (by decide) ?_
      cases hf
      exact retv X hK hP hD hS dX5_takeClause_56

abbrev wd_X5_takeFirst (cI cZ cR : ClassId) (a_t a_t_text a_t_code a_t_waiting : Nat) (t_length t_codes t_waits t_fault t_faultPlace t_at t_place t_sign t_number t_state t_name t_compared t_open t_parentheses : Int32) (t_code_r : Nat → Int32) (t_waiting_r : Nat → Int32) : va_W := [(a_t, oB 5 [.ref a_t_text, .ref a_t_code, .ref a_t_waiting, .int t_length, .int t_codes, .int t_waits, .int t_fault, .int t_faultPlace, .int t_at, .int t_place, .int t_sign, .int t_number, .int t_state, .int t_name, .int t_compared, .int t_open, .int t_parentheses]), (a_t_code, aI cI 400 t_code_r), (a_t_waiting, aI cI 40 t_waiting_r)]
def F_X5_takeFirst (t_codes : Int32) (t_compared : Int32) (t_fault : Int32) (t_faultPlace : Int32) (t_name : Int32) (t_number : Int32) (t_open : Int32) (t_parentheses : Int32) (t_place : Int32) (t_sign : Int32) (t_state : Int32) (t_waits : Int32) (t_code_r : Nat → Int32) (t_waiting_r : Nat → Int32) : Option (Int32 × Int32 × Int32 × Int32 × Int32 × Int32 × Int32 × Int32 × Int32 × (Nat → Int32) × (Nat → Int32)) := (if t_sign = 0 then (some (t_codes, t_compared, t_fault, t_faultPlace, t_name, t_open, t_parentheses, (8 : Int32), t_waits, t_code_r, t_waiting_r)) else ((F_X5_takeClause t_codes t_compared t_fault t_faultPlace t_name t_number t_open t_parentheses t_place t_sign t_state t_waits t_code_r t_waiting_r).bind (fun r2 => (some ((r2.1), (r2.2.1), (r2.2.2.1), (r2.2.2.2.1), (r2.2.2.2.2.1), (r2.2.2.2.2.2.1), (r2.2.2.2.2.2.2.1), (r2.2.2.2.2.2.2.2.1), (r2.2.2.2.2.2.2.2.2.1), (r2.2.2.2.2.2.2.2.2.2.1), (r2.2.2.2.2.2.2.2.2.2.2))))))
set_option maxRecDepth 100000 in
theorem in_X5_takeFirst_X5 : ∀ w ∈ wsX50, w ∈ wsX5_takeFirst := by decide +kernel
set_option maxHeartbeats 4000000 in
set_option maxRecDepth 100000 in
theorem c_X5_takeFirst (l : Launch) (D : va_G) (cI cZ cR : ClassId) {a_t a_t_text a_t_code a_t_waiting : Nat} {t_length : Int32} {t_codes : Int32} {t_waits : Int32} {t_fault : Int32} {t_faultPlace : Int32} {t_at : Int32} {t_place : Int32} {t_sign : Int32} {t_number : Int32} {t_state : Int32} {t_name : Int32} {t_compared : Int32} {t_open : Int32} {t_parentheses : Int32} {t_code_r : Nat → Int32} {t_waiting_r : Nat → Int32} {sz : Nat} {out : Int32 × Int32 × Int32 × Int32 × Int32 × Int32 × Int32 × Int32 × Int32 × (Nat → Int32) × (Nat → Int32)} (hf : F_X5_takeFirst t_codes t_compared t_fault t_faultPlace t_name t_number t_open t_parentheses t_place t_sign t_state t_waits t_code_r t_waiting_r = some out) : CV l yX5_takeFirst wsX5_takeFirst ({ frames := 4, cells := 0, slots := 0, locals := 83 } : Room) D cI cZ cR [.ref a_t] (wd_X5_takeFirst cI cZ cR a_t a_t_text a_t_code a_t_waiting t_length t_codes t_waits t_fault t_faultPlace t_at t_place t_sign t_number t_state t_name t_compared t_open t_parentheses t_code_r t_waiting_r) sz (wd_X5_takeFirst cI cZ cR a_t a_t_text a_t_code a_t_waiting t_length (out.1) (out.2.2.2.2.2.2.2.2.1) (out.2.2.1) (out.2.2.2.1) t_at t_place t_sign t_number (out.2.2.2.2.2.2.2.1) (out.2.2.2.2.1) (out.2.1) (out.2.2.2.2.2.1) (out.2.2.2.2.2.2.1) (out.2.2.2.2.2.2.2.2.2.1) (out.2.2.2.2.2.2.2.2.2.2)) := by
  refine met_of (Qf := fun A => qv D cI cZ cR A (wd_X5_takeFirst cI cZ cR a_t a_t_text a_t_code a_t_waiting t_length (out.1) (out.2.2.2.2.2.2.2.2.1) (out.2.2.1) (out.2.2.2.1) t_at t_place t_sign t_number (out.2.2.2.2.2.2.2.1) (out.2.2.2.2.1) (out.2.1) (out.2.2.2.2.2.1) (out.2.2.2.2.2.2.1) (out.2.2.2.2.2.2.2.2.2.1) (out.2.2.2.2.2.2.2.2.2.2))) RX5 (by decide +kernel) rfl rfl (Nat.le_of_ble_eq_true rfl) ?_
  intro p e s m below meth c A X hK hA hP hD hS ls hl
  have hl : lv_has ls 1 [(0, .ref a_t)] := hl
  obtain ⟨hx, hb, hml, hr, hown, hts, hlocks, hN⟩ := id X
  unfold F_X5_takeFirst at hf
  refine lv_aload_n hx hb dX5_takeFirst_0 rfl (lv_at hl 0 rfl) ?_
  refine va_get (D := D) (ci := 5) (v := .int t_sign) (C := RX5) (T := TX5) (N := 17) hx hb hts in_X5_takeFirst_X5 hown hK hP 0 rfl rfl 10 (by decide) (hts (.fieldLink RX5 64 "DivisionHall$Reader" "sign" "I") (by decide +kernel)) (fun _ h9 => h9) rfl dX5_takeFirst_1 ?_
  refine lv_if_ne (tgt := 16) hx hb dX5_takeFirst_4 (by decide) (fun c1 => ?_) (fun c1 => ?_)
  · have hf := ineg c1 hf
    refine lv_aload_n hx hb dX5_takeFirst_16 rfl (lv_at hl 0 rfl) ?_
    obtain ⟨r2, hr3, hf⟩ := bnd hf
    refine wcallv (D := D) (cI := cI) (cZ := cZ) (cR := cR) (wc := (wd_X5_takeClause cI cZ cR a_t a_t_text a_t_code a_t_waiting t_length t_codes t_waits t_fault t_faultPlace t_at t_place t_sign t_number t_state t_name t_compared t_open t_parentheses t_code_r t_waiting_r)) (w' := (wd_X5_takeClause cI cZ cR a_t a_t_text a_t_code a_t_waiting t_length (r2.1) (r2.2.2.2.2.2.2.2.2.1) (r2.2.2.1) (r2.2.2.2.1) t_at t_place t_sign t_number (r2.2.2.2.2.2.2.2.1) (r2.2.2.2.2.1) (r2.2.1) (r2.2.2.2.2.2.1) (r2.2.2.2.2.2.2.1) (r2.2.2.2.2.2.2.2.2.2.1) (r2.2.2.2.2.2.2.2.2.2.2))) [0, 1, 2] hP hD hS hA rfl rfl rfl (rnV (As := []) (ci := 5) (q0 := 0) X [0, 1, 2] hK hP hD rfl rfl rfl rfl (c_X5_takeClause l D cI cZ cR hr3) (cwV 0 hts gX5_takeFirst_X5_takeClause rfl rfl rfl (by decide +kernel) ⟨Nat.le_of_ble_eq_true rfl, Nat.le_of_ble_eq_true rfl⟩) rfl hl.1 rfl (Nat.le_of_ble_eq_true rfl) dX5_takeFirst_17) (fun H locs hP hD hS => ?_)
    have hP : va_P D vwCl (wd_X5_takeFirst cI cZ cR a_t a_t_text a_t_code a_t_waiting t_length (r2.1) (r2.2.2.2.2.2.2.2.2.1) (r2.2.2.1) (r2.2.2.2.1) t_at t_place t_sign t_number (r2.2.2.2.2.2.2.2.1) (r2.2.2.2.2.1) (r2.2.1) (r2.2.2.2.2.2.1) (r2.2.2.2.2.2.2.1) (r2.2.2.2.2.2.2.2.2.2.1) (r2.2.2.2.2.2.2.2.2.2.2)) H := hP
    have hD : va_D A (wd_X5_takeFirst cI cZ cR a_t a_t_text a_t_code a_t_waiting t_length (r2.1) (r2.2.2.2.2.2.2.2.2.1) (r2.2.2.1) (r2.2.2.2.1) t_at t_place t_sign t_number (r2.2.2.2.2.2.2.2.1) (r2.2.2.2.2.1) (r2.2.1) (r2.2.2.2.2.2.1) (r2.2.2.2.2.2.2.1) (r2.2.2.2.2.2.2.2.2.2.1) (r2.2.2.2.2.2.2.2.2.2.2)) := hD
    cases hf
    exact retv X hK hP hD hS dX5_takeFirst_20
  · have hf := ipos c1 hf
    refine lv_aload_n hx hb dX5_takeFirst_7 rfl (lv_at hl 0 rfl) ?_
    refine lv_bipush (v := (8 : Int32)) hx hb dX5_takeFirst_8 (by decide) ?_
    refine va_put (D := D) (ci := 5) (v := .int (8 : Int32)) (ty := .int) (C := RX5) (T := TX5) (N := 17) hx hb hts in_X5_takeFirst_X5 tyX5 tyX5_ok nmX5 hown hK hP hD hS 0 rfl rfl 12 (by decide) (hts (.fieldLink RX5 50 "DivisionHall$Reader" "state" "I") (by decide +kernel)) (fun _ h9 => h9) rfl (by decide +kernel) rfl rfl (Nat.le_of_ble_eq_true rfl) dX5_takeFirst_10 (fun H locs hP hD hS => ?_)
    have hP : va_P D vwCl (wd_X5_takeFirst cI cZ cR a_t a_t_text a_t_code a_t_waiting t_length t_codes t_waits t_fault t_faultPlace t_at t_place t_sign t_number (8 : Int32) t_name t_compared t_open t_parentheses t_code_r t_waiting_r) H := hP
    have hD : va_D A (wd_X5_takeFirst cI cZ cR a_t a_t_text a_t_code a_t_waiting t_length t_codes t_waits t_fault t_faultPlace t_at t_place t_sign t_number (8 : Int32) t_name t_compared t_open t_parentheses t_code_r t_waiting_r) := hD
    refine lv_goto (tgt := 20) hx hb dX5_takeFirst_13 (by decide) ?_
    cases hf
    exact retv X hK hP hD hS dX5_takeFirst_20

abbrev wd_X5_takeLast (cI cZ cR : ClassId) (a_t a_t_text a_t_code a_t_waiting : Nat) (t_length t_codes t_waits t_fault t_faultPlace t_at t_place t_sign t_number t_state t_name t_compared t_open t_parentheses : Int32) : va_W := [(a_t, oB 5 [.ref a_t_text, .ref a_t_code, .ref a_t_waiting, .int t_length, .int t_codes, .int t_waits, .int t_fault, .int t_faultPlace, .int t_at, .int t_place, .int t_sign, .int t_number, .int t_state, .int t_name, .int t_compared, .int t_open, .int t_parentheses])]
def F_X5_takeLast (t_fault : Int32) (t_faultPlace : Int32) (t_place : Int32) (t_sign : Int32) (t_state : Int32) : Option (Int32 × Int32 × Int32) := (if t_sign = 0 then (some (t_fault, t_faultPlace, (8 : Int32))) else ((F_X5_stop (1 : Int32) t_fault t_faultPlace t_place t_state).bind (fun r2 => (some ((r2.1), (r2.2.1), (r2.2.2))))))
set_option maxRecDepth 100000 in
theorem in_X5_takeLast_X5 : ∀ w ∈ wsX50, w ∈ wsX5_takeLast := by decide +kernel
set_option maxHeartbeats 4000000 in
set_option maxRecDepth 100000 in
theorem c_X5_takeLast (l : Launch) (D : va_G) (cI cZ cR : ClassId) {a_t a_t_text a_t_code a_t_waiting : Nat} {t_length : Int32} {t_codes : Int32} {t_waits : Int32} {t_fault : Int32} {t_faultPlace : Int32} {t_at : Int32} {t_place : Int32} {t_sign : Int32} {t_number : Int32} {t_state : Int32} {t_name : Int32} {t_compared : Int32} {t_open : Int32} {t_parentheses : Int32} {sz : Nat} {out : Int32 × Int32 × Int32} (hf : F_X5_takeLast t_fault t_faultPlace t_place t_sign t_state = some out) : CV l yX5_takeLast wsX5_takeLast ({ frames := 1, cells := 0, slots := 0, locals := 21 } : Room) D cI cZ cR [.ref a_t] (wd_X5_takeLast cI cZ cR a_t a_t_text a_t_code a_t_waiting t_length t_codes t_waits t_fault t_faultPlace t_at t_place t_sign t_number t_state t_name t_compared t_open t_parentheses) sz (wd_X5_takeLast cI cZ cR a_t a_t_text a_t_code a_t_waiting t_length t_codes t_waits (out.1) (out.2.1) t_at t_place t_sign t_number (out.2.2) t_name t_compared t_open t_parentheses) := by
  refine met_of (Qf := fun A => qv D cI cZ cR A (wd_X5_takeLast cI cZ cR a_t a_t_text a_t_code a_t_waiting t_length t_codes t_waits (out.1) (out.2.1) t_at t_place t_sign t_number (out.2.2) t_name t_compared t_open t_parentheses)) RX5 (by decide +kernel) rfl rfl (Nat.le_of_ble_eq_true rfl) ?_
  intro p e s m below meth c A X hK hA hP hD hS ls hl
  have hl : lv_has ls 1 [(0, .ref a_t)] := hl
  obtain ⟨hx, hb, hml, hr, hown, hts, hlocks, hN⟩ := id X
  unfold F_X5_takeLast at hf
  refine lv_aload_n hx hb dX5_takeLast_0 rfl (lv_at hl 0 rfl) ?_
  refine va_get (D := D) (ci := 5) (v := .int t_sign) (C := RX5) (T := TX5) (N := 17) hx hb hts in_X5_takeLast_X5 hown hK hP 0 rfl rfl 10 (by decide) (hts (.fieldLink RX5 64 "DivisionHall$Reader" "sign" "I") (by decide +kernel)) (fun _ h9 => h9) rfl dX5_takeLast_1 ?_
  refine lv_if_ne (tgt := 16) hx hb dX5_takeLast_4 (by decide) (fun c1 => ?_) (fun c1 => ?_)
  · have hf := ineg c1 hf
    refine lv_aload_n hx hb dX5_takeLast_16 rfl (lv_at hl 0 rfl) ?_
    refine lv_iconst (v := (1 : Int32)) hx hb dX5_takeLast_17 (by decide) ?_
    obtain ⟨r2, hr3, hf⟩ := bnd hf
    refine wcallv (D := D) (cI := cI) (cZ := cZ) (cR := cR) (wc := (wd_X5_stop cI cZ cR a_t a_t_text a_t_code a_t_waiting t_length t_codes t_waits t_fault t_faultPlace t_at t_place t_sign t_number t_state t_name t_compared t_open t_parentheses)) (w' := (wd_X5_stop cI cZ cR a_t a_t_text a_t_code a_t_waiting t_length t_codes t_waits (r2.1) (r2.2.1) t_at t_place t_sign t_number (r2.2.2) t_name t_compared t_open t_parentheses)) [0] hP hD hS hA rfl rfl rfl (rnV (As := [.int (1 : Int32)]) (ci := 5) (q0 := 0) X [0] hK hP hD rfl rfl rfl rfl (c_X5_stop l D cI cZ cR hr3) (cwV 1 hts gX5_takeLast_X5_stop rfl rfl rfl (by decide +kernel) ⟨Nat.le_of_ble_eq_true rfl, Nat.le_of_ble_eq_true rfl⟩) rfl hl.1 rfl (Nat.le_of_ble_eq_true rfl) dX5_takeLast_18) (fun H locs hP hD hS => ?_)
    have hP : va_P D vwCl (wd_X5_takeLast cI cZ cR a_t a_t_text a_t_code a_t_waiting t_length t_codes t_waits (r2.1) (r2.2.1) t_at t_place t_sign t_number (r2.2.2) t_name t_compared t_open t_parentheses) H := hP
    have hD : va_D A (wd_X5_takeLast cI cZ cR a_t a_t_text a_t_code a_t_waiting t_length t_codes t_waits (r2.1) (r2.2.1) t_at t_place t_sign t_number (r2.2.2) t_name t_compared t_open t_parentheses) := hD
    cases hf
    exact retv X hK hP hD hS dX5_takeLast_21
  · have hf := ipos c1 hf
    refine lv_aload_n hx hb dX5_takeLast_7 rfl (lv_at hl 0 rfl) ?_
    refine lv_bipush (v := (8 : Int32)) hx hb dX5_takeLast_8 (by decide) ?_
    refine va_put (D := D) (ci := 5) (v := .int (8 : Int32)) (ty := .int) (C := RX5) (T := TX5) (N := 17) hx hb hts in_X5_takeLast_X5 tyX5 tyX5_ok nmX5 hown hK hP hD hS 0 rfl rfl 12 (by decide) (hts (.fieldLink RX5 50 "DivisionHall$Reader" "state" "I") (by decide +kernel)) (fun _ h9 => h9) rfl (by decide +kernel) rfl rfl (Nat.le_of_ble_eq_true rfl) dX5_takeLast_10 (fun H locs hP hD hS => ?_)
    have hP : va_P D vwCl (wd_X5_takeLast cI cZ cR a_t a_t_text a_t_code a_t_waiting t_length t_codes t_waits t_fault t_faultPlace t_at t_place t_sign t_number (8 : Int32) t_name t_compared t_open t_parentheses) H := hP
    have hD : va_D A (wd_X5_takeLast cI cZ cR a_t a_t_text a_t_code a_t_waiting t_length t_codes t_waits t_fault t_faultPlace t_at t_place t_sign t_number (8 : Int32) t_name t_compared t_open t_parentheses) := hD
    refine lv_goto (tgt := 21) hx hb dX5_takeLast_13 (by decide) ?_
    cases hf
    exact retv X hK hP hD hS dX5_takeLast_21

abbrev wd_X5_takeOwner (cI cZ cR : ClassId) (a_t a_t_text a_t_code a_t_waiting : Nat) (t_length t_codes t_waits t_fault t_faultPlace t_at t_place t_sign t_number t_state t_name t_compared t_open t_parentheses : Int32) (t_code_r : Nat → Int32) : va_W := [(a_t, oB 5 [.ref a_t_text, .ref a_t_code, .ref a_t_waiting, .int t_length, .int t_codes, .int t_waits, .int t_fault, .int t_faultPlace, .int t_at, .int t_place, .int t_sign, .int t_number, .int t_state, .int t_name, .int t_compared, .int t_open, .int t_parentheses]), (a_t_code, aI cI 400 t_code_r)]
def F_X5_takeOwner_97 (t_name : Int32) (t_number : Int32) (t_place : Int32) (t_sign : Int32) (s0 : Int32) (t_codes : Int32) (t_fault : Int32) (t_faultPlace : Int32) (t_state : Int32) (t_code_r : Nat → Int32) : Option (Int32 × Int32 × Int32 × Int32 × (Nat → Int32)) := ((F_X5_emit s0 t_number t_codes t_code_r).bind (fun r13 => (some ((r13.1), t_fault, t_faultPlace, (4 : Int32), (r13.2)))))
def F_X5_takeOwner_47 (t_name : Int32) (t_number : Int32) (t_place : Int32) (t_sign : Int32) (x1 : Int32) (s0 : Int32) (s1 : Int32) (t_codes : Int32) (t_fault : Int32) (t_faultPlace : Int32) (t_state : Int32) (t_code_r : Nat → Int32) : Option (Int32 × Int32 × Int32 × Int32 × (Nat → Int32)) := (if s1 < s0 then (if x1 = 0 then (if t_name = (7 : Int32) then (F_X5_takeOwner_97 t_name t_number t_place t_sign (12 : Int32) t_codes t_fault t_faultPlace t_state t_code_r) else (F_X5_takeOwner_97 t_name t_number t_place t_sign (13 : Int32) t_codes t_fault t_faultPlace t_state t_code_r)) else ((F_X5_emit (11 : Int32) t_number t_codes t_code_r).bind (fun r9 => (some ((r9.1), t_fault, t_faultPlace, (5 : Int32), (r9.2)))))) else ((F_X5_stop (2 : Int32) t_fault t_faultPlace t_place t_state).bind (fun r11 => (some (t_codes, (r11.1), (r11.2.1), (r11.2.2), t_code_r)))))
def F_X5_takeOwner_14 (t_name : Int32) (t_number : Int32) (t_place : Int32) (t_sign : Int32) (s0 : Int32) (t_codes : Int32) (t_fault : Int32) (t_faultPlace : Int32) (t_state : Int32) (t_code_r : Nat → Int32) : Option (Int32 × Int32 × Int32 × Int32 × (Nat → Int32)) := (if t_sign = (6 : Int32) then (if s0 = 0 then (F_X5_takeOwner_47 t_name t_number t_place t_sign s0 (6 : Int32) t_number t_codes t_fault t_faultPlace t_state t_code_r) else (F_X5_takeOwner_47 t_name t_number t_place t_sign s0 (10 : Int32) t_number t_codes t_fault t_faultPlace t_state t_code_r)) else ((F_X5_stop (1 : Int32) t_fault t_faultPlace t_place t_state).bind (fun r4 => (some (t_codes, (r4.1), (r4.2.1), (r4.2.2), t_code_r)))))
def F_X5_takeOwner (t_codes : Int32) (t_fault : Int32) (t_faultPlace : Int32) (t_name : Int32) (t_number : Int32) (t_place : Int32) (t_sign : Int32) (t_state : Int32) (t_code_r : Nat → Int32) : Option (Int32 × Int32 × Int32 × Int32 × (Nat → Int32)) := (if t_name = (11 : Int32) then (F_X5_takeOwner_14 t_name t_number t_place t_sign (1 : Int32) t_codes t_fault t_faultPlace t_state t_code_r) else (F_X5_takeOwner_14 t_name t_number t_place t_sign (0 : Int32) t_codes t_fault t_faultPlace t_state t_code_r))
set_option maxRecDepth 100000 in
theorem in_X5_takeOwner_X5 : ∀ w ∈ wsX50, w ∈ wsX5_takeOwner := by decide +kernel
set_option maxHeartbeats 4000000 in
set_option maxRecDepth 100000 in
theorem w_X5_takeOwner_97 {p : Program} {l : Launch} {e : Env} {s : State} {m : MethodId} {args : Array Value} {below : List Frame} {meth : Method} {c : Code} {D : va_G} {cI cZ cR : ClassId} {A : Nat → Prop} {a_t a_t_text a_t_code a_t_waiting : Nat} {t_length : Int32} {t_waits : Int32} {t_at : Int32} {t_place : Int32} {t_sign : Int32} {t_number : Int32} {t_name : Int32} {t_compared : Int32} {t_open : Int32} {t_parentheses : Int32} {out : Int32 × Int32 × Int32 × Int32 × (Nat → Int32)} (X : cx p s m args meth c cX5_takeOwner 2 none RX5 wsX5_takeOwner) (hK : va_K D vwCl (ty3 cI cZ cR) s) (hA : ∀ q, s.heap.size ≤ q → A q) : ∀ (s0 : Int32) (t_codes : Int32) (t_fault : Int32) (t_faultPlace : Int32) (t_state : Int32) (t_code_r : Nat → Int32), F_X5_takeOwner_97 t_name t_number t_place t_sign s0 t_codes t_fault t_faultPlace t_state t_code_r = some out → ∀ (H : Heap) (locs : List Loc), va_P D vwCl (wd_X5_takeOwner cI cZ cR a_t a_t_text a_t_code a_t_waiting t_length t_codes t_waits t_fault t_faultPlace t_at t_place t_sign t_number t_state t_name t_compared t_open t_parentheses t_code_r) H → va_D A (wd_X5_takeOwner cI cZ cR a_t a_t_text a_t_code a_t_waiting t_length t_codes t_waits t_fault t_faultPlace t_at t_place t_sign t_number t_state t_name t_compared t_open t_parentheses t_code_r) → va_S A s.heap H locs → ∀ (ls : Array Slot), lv_has ls 2 [(0, .ref a_t)] → W p l e (headSpec wsX5_takeOwner ({ frames := 2, cells := 0, slots := 0, locals := 43 } : Room)).room s m args below meth c H locs 0 0 (MQ below (qv D cI cZ cR A (wd_X5_takeOwner cI cZ cR a_t a_t_text a_t_code a_t_waiting t_length (out.1) t_waits (out.2.1) (out.2.2.1) t_at t_place t_sign t_number (out.2.2.2.1) t_name t_compared t_open t_parentheses (out.2.2.2.2))) args s 0 0 A) (F0 m 97 ls [.int s0, .ref a_t]) := by
  obtain ⟨hx, hb, hml, hr, hown, hts, hlocks, hN⟩ := id X
  intro s0 t_codes t_fault t_faultPlace t_state t_code_r hf H locs hP hD hS ls hl
  unfold F_X5_takeOwner_97 at hf
  refine lv_aload_n hx hb dX5_takeOwner_97 rfl (lv_at hl 0 rfl) ?_
  refine va_get (D := D) (ci := 5) (v := .int t_number) (C := RX5) (T := TX5) (N := 17) hx hb hts in_X5_takeOwner_X5 hown hK hP 0 rfl rfl 11 (by decide) (hts (.fieldLink RX5 115 "DivisionHall$Reader" "number" "I") (by decide +kernel)) (fun _ h9 => h9) rfl dX5_takeOwner_98 ?_
  obtain ⟨r13, hr14, hf⟩ := bnd hf
  refine wcallv (D := D) (cI := cI) (cZ := cZ) (cR := cR) (wc := (wd_X5_emit cI cZ cR a_t a_t_text a_t_code a_t_waiting t_length t_codes t_waits t_fault t_faultPlace t_at t_place t_sign t_number t_state t_name t_compared t_open t_parentheses t_code_r)) (w' := (wd_X5_emit cI cZ cR a_t a_t_text a_t_code a_t_waiting t_length (r13.1) t_waits t_fault t_faultPlace t_at t_place t_sign t_number t_state t_name t_compared t_open t_parentheses (r13.2))) [0, 1] hP hD hS hA rfl rfl rfl (rnV (As := [.int s0, .int t_number]) (ci := 5) (q0 := 0) X [0, 1] hK hP hD rfl rfl rfl rfl (c_X5_emit l D cI cZ cR hr14) (cwV 2 hts gX5_takeOwner_X5_emit rfl rfl rfl (by decide +kernel) ⟨Nat.le_of_ble_eq_true rfl, Nat.le_of_ble_eq_true rfl⟩) rfl hl.1 rfl (Nat.le_of_ble_eq_true rfl) dX5_takeOwner_101) (fun H locs hP hD hS => ?_)
  have hP : va_P D vwCl (wd_X5_takeOwner cI cZ cR a_t a_t_text a_t_code a_t_waiting t_length (r13.1) t_waits t_fault t_faultPlace t_at t_place t_sign t_number t_state t_name t_compared t_open t_parentheses (r13.2)) H := hP
  have hD : va_D A (wd_X5_takeOwner cI cZ cR a_t a_t_text a_t_code a_t_waiting t_length (r13.1) t_waits t_fault t_faultPlace t_at t_place t_sign t_number t_state t_name t_compared t_open t_parentheses (r13.2)) := hD
  refine lv_aload_n hx hb dX5_takeOwner_104 rfl (lv_at hl 0 rfl) ?_
  refine lv_iconst (v := (4 : Int32)) hx hb dX5_takeOwner_105 (by decide) ?_
  refine va_put (D := D) (ci := 5) (v := .int (4 : Int32)) (ty := .int) (C := RX5) (T := TX5) (N := 17) hx hb hts in_X5_takeOwner_X5 tyX5 tyX5_ok nmX5 hown hK hP hD hS 0 rfl rfl 12 (by decide) (hts (.fieldLink RX5 50 "DivisionHall$Reader" "state" "I") (by decide +kernel)) (fun _ h9 => h9) rfl (by decide +kernel) rfl rfl (Nat.le_of_ble_eq_true rfl) dX5_takeOwner_106 (fun H locs hP hD hS => ?_)
  have hP : va_P D vwCl (wd_X5_takeOwner cI cZ cR a_t a_t_text a_t_code a_t_waiting t_length (r13.1) t_waits t_fault t_faultPlace t_at t_place t_sign t_number (4 : Int32) t_name t_compared t_open t_parentheses (r13.2)) H := hP
  have hD : va_D A (wd_X5_takeOwner cI cZ cR a_t a_t_text a_t_code a_t_waiting t_length (r13.1) t_waits t_fault t_faultPlace t_at t_place t_sign t_number (4 : Int32) t_name t_compared t_open t_parentheses (r13.2)) := hD
  cases hf
  exact retv X hK hP hD hS dX5_takeOwner_109
set_option maxHeartbeats 4000000 in
set_option maxRecDepth 100000 in
theorem w_X5_takeOwner_47 {p : Program} {l : Launch} {e : Env} {s : State} {m : MethodId} {args : Array Value} {below : List Frame} {meth : Method} {c : Code} {D : va_G} {cI cZ cR : ClassId} {A : Nat → Prop} {a_t a_t_text a_t_code a_t_waiting : Nat} {t_length : Int32} {t_waits : Int32} {t_at : Int32} {t_place : Int32} {t_sign : Int32} {t_number : Int32} {t_name : Int32} {t_compared : Int32} {t_open : Int32} {t_parentheses : Int32} {out : Int32 × Int32 × Int32 × Int32 × (Nat → Int32)} (X : cx p s m args meth c cX5_takeOwner 2 none RX5 wsX5_takeOwner) (hK : va_K D vwCl (ty3 cI cZ cR) s) (hA : ∀ q, s.heap.size ≤ q → A q) : ∀ (x1 : Int32) (s0 : Int32) (s1 : Int32) (t_codes : Int32) (t_fault : Int32) (t_faultPlace : Int32) (t_state : Int32) (t_code_r : Nat → Int32), F_X5_takeOwner_47 t_name t_number t_place t_sign x1 s0 s1 t_codes t_fault t_faultPlace t_state t_code_r = some out → ∀ (H : Heap) (locs : List Loc), va_P D vwCl (wd_X5_takeOwner cI cZ cR a_t a_t_text a_t_code a_t_waiting t_length t_codes t_waits t_fault t_faultPlace t_at t_place t_sign t_number t_state t_name t_compared t_open t_parentheses t_code_r) H → va_D A (wd_X5_takeOwner cI cZ cR a_t a_t_text a_t_code a_t_waiting t_length t_codes t_waits t_fault t_faultPlace t_at t_place t_sign t_number t_state t_name t_compared t_open t_parentheses t_code_r) → va_S A s.heap H locs → ∀ (ls : Array Slot), lv_has ls 2 [(0, .ref a_t), (1, .int x1)] → W p l e (headSpec wsX5_takeOwner ({ frames := 2, cells := 0, slots := 0, locals := 43 } : Room)).room s m args below meth c H locs 0 0 (MQ below (qv D cI cZ cR A (wd_X5_takeOwner cI cZ cR a_t a_t_text a_t_code a_t_waiting t_length (out.1) t_waits (out.2.1) (out.2.2.1) t_at t_place t_sign t_number (out.2.2.2.1) t_name t_compared t_open t_parentheses (out.2.2.2.2))) args s 0 0 A) (F0 m 47 ls [.int s0, .int s1]) := by
  obtain ⟨hx, hb, hml, hr, hown, hts, hlocks, hN⟩ := id X
  intro x1 s0 s1 t_codes t_fault t_faultPlace t_state t_code_r hf H locs hP hD hS ls hl
  unfold F_X5_takeOwner_47 at hf
  refine lv_icmp_lt (tgt := 58) hx hb dX5_takeOwner_47 (by decide) (fun c6 => ?_) (fun c6 => ?_)
  · have hf := ipos c6 hf
    refine lv_iload_n hx hb dX5_takeOwner_58 rfl (lv_at hl 1 rfl) ?_
    refine lv_if_eq (tgt := 80) hx hb dX5_takeOwner_59 (by decide) (fun c7 => ?_) (fun c7 => ?_)
    · have hf := ipos c7 hf
      refine lv_aload_n hx hb dX5_takeOwner_80 rfl (lv_at hl 0 rfl) ?_
      refine lv_aload_n hx hb dX5_takeOwner_81 rfl (lv_at hl 0 rfl) ?_
      refine va_get (D := D) (ci := 5) (v := .int t_name) (C := RX5) (T := TX5) (N := 17) hx hb hts in_X5_takeOwner_X5 hown hK hP 0 rfl rfl 13 (by decide) (hts (.fieldLink RX5 118 "DivisionHall$Reader" "name" "I") (by decide +kernel)) (fun _ h9 => h9) rfl dX5_takeOwner_82 ?_
      refine lv_bipush (v := (7 : Int32)) hx hb dX5_takeOwner_85 (by decide) ?_
      refine lv_icmp_ne (tgt := 95) hx hb dX5_takeOwner_87 (by decide) (fun c8 => ?_) (fun c8 => ?_)
      · have hf := ineg c8 hf
        refine lv_bipush (v := (13 : Int32)) hx hb dX5_takeOwner_95 (by decide) ?_
        exact w_X5_takeOwner_97 X hK hA (13 : Int32) t_codes t_fault t_faultPlace t_state t_code_r hf _ _ hP hD hS _ (lv_sub hl [0] rfl)
      · have hf := ipos c8 hf
        refine lv_bipush (v := (12 : Int32)) hx hb dX5_takeOwner_90 (by decide) ?_
        refine lv_goto (tgt := 97) hx hb dX5_takeOwner_92 (by decide) ?_
        exact w_X5_takeOwner_97 X hK hA (12 : Int32) t_codes t_fault t_faultPlace t_state t_code_r hf _ _ hP hD hS _ (lv_sub hl [0] rfl)
    · have hf := ineg c7 hf
      refine lv_aload_n hx hb dX5_takeOwner_62 rfl (lv_at hl 0 rfl) ?_
      refine lv_bipush (v := (11 : Int32)) hx hb dX5_takeOwner_63 (by decide) ?_
      refine lv_aload_n hx hb dX5_takeOwner_65 rfl (lv_at hl 0 rfl) ?_
      refine va_get (D := D) (ci := 5) (v := .int t_number) (C := RX5) (T := TX5) (N := 17) hx hb hts in_X5_takeOwner_X5 hown hK hP 0 rfl rfl 11 (by decide) (hts (.fieldLink RX5 115 "DivisionHall$Reader" "number" "I") (by decide +kernel)) (fun _ h9 => h9) rfl dX5_takeOwner_66 ?_
      obtain ⟨r9, hr10, hf⟩ := bnd hf
      refine wcallv (D := D) (cI := cI) (cZ := cZ) (cR := cR) (wc := (wd_X5_emit cI cZ cR a_t a_t_text a_t_code a_t_waiting t_length t_codes t_waits t_fault t_faultPlace t_at t_place t_sign t_number t_state t_name t_compared t_open t_parentheses t_code_r)) (w' := (wd_X5_emit cI cZ cR a_t a_t_text a_t_code a_t_waiting t_length (r9.1) t_waits t_fault t_faultPlace t_at t_place t_sign t_number t_state t_name t_compared t_open t_parentheses (r9.2))) [0, 1] hP hD hS hA rfl rfl rfl (rnV (As := [.int (11 : Int32), .int t_number]) (ci := 5) (q0 := 0) X [0, 1] hK hP hD rfl rfl rfl rfl (c_X5_emit l D cI cZ cR hr10) (cwV 2 hts gX5_takeOwner_X5_emit rfl rfl rfl (by decide +kernel) ⟨Nat.le_of_ble_eq_true rfl, Nat.le_of_ble_eq_true rfl⟩) rfl hl.1 rfl (Nat.le_of_ble_eq_true rfl) dX5_takeOwner_69) (fun H locs hP hD hS => ?_)
      have hP : va_P D vwCl (wd_X5_takeOwner cI cZ cR a_t a_t_text a_t_code a_t_waiting t_length (r9.1) t_waits t_fault t_faultPlace t_at t_place t_sign t_number t_state t_name t_compared t_open t_parentheses (r9.2)) H := hP
      have hD : va_D A (wd_X5_takeOwner cI cZ cR a_t a_t_text a_t_code a_t_waiting t_length (r9.1) t_waits t_fault t_faultPlace t_at t_place t_sign t_number t_state t_name t_compared t_open t_parentheses (r9.2)) := hD
      refine lv_aload_n hx hb dX5_takeOwner_72 rfl (lv_at hl 0 rfl) ?_
      refine lv_iconst (v := (5 : Int32)) hx hb dX5_takeOwner_73 (by decide) ?_
      refine va_put (D := D) (ci := 5) (v := .int (5 : Int32)) (ty := .int) (C := RX5) (T := TX5) (N := 17) hx hb hts in_X5_takeOwner_X5 tyX5 tyX5_ok nmX5 hown hK hP hD hS 0 rfl rfl 12 (by decide) (hts (.fieldLink RX5 50 "DivisionHall$Reader" "state" "I") (by decide +kernel)) (fun _ h9 => h9) rfl (by decide +kernel) rfl rfl (Nat.le_of_ble_eq_true rfl) dX5_takeOwner_74 (fun H locs hP hD hS => ?_)
      have hP : va_P D vwCl (wd_X5_takeOwner cI cZ cR a_t a_t_text a_t_code a_t_waiting t_length (r9.1) t_waits t_fault t_faultPlace t_at t_place t_sign t_number (5 : Int32) t_name t_compared t_open t_parentheses (r9.2)) H := hP
      have hD : va_D A (wd_X5_takeOwner cI cZ cR a_t a_t_text a_t_code a_t_waiting t_length (r9.1) t_waits t_fault t_faultPlace t_at t_place t_sign t_number (5 : Int32) t_name t_compared t_open t_parentheses (r9.2)) := hD
      refine lv_goto (tgt := 109) hx hb dX5_takeOwner_77 (by decide) ?_
      cases hf
      exact retv X hK hP hD hS dX5_takeOwner_109
  · have hf := ineg c6 hf
    refine lv_aload_n hx hb dX5_takeOwner_50 rfl (lv_at hl 0 rfl) ?_
    refine lv_iconst (v := (2 : Int32)) hx hb dX5_takeOwner_51 (by decide) ?_
    obtain ⟨r11, hr12, hf⟩ := bnd hf
    refine wcallv (D := D) (cI := cI) (cZ := cZ) (cR := cR) (wc := (wd_X5_stop cI cZ cR a_t a_t_text a_t_code a_t_waiting t_length t_codes t_waits t_fault t_faultPlace t_at t_place t_sign t_number t_state t_name t_compared t_open t_parentheses)) (w' := (wd_X5_stop cI cZ cR a_t a_t_text a_t_code a_t_waiting t_length t_codes t_waits (r11.1) (r11.2.1) t_at t_place t_sign t_number (r11.2.2) t_name t_compared t_open t_parentheses)) [0] hP hD hS hA rfl rfl rfl (rnV (As := [.int (2 : Int32)]) (ci := 5) (q0 := 0) X [0] hK hP hD rfl rfl rfl rfl (c_X5_stop l D cI cZ cR hr12) (cwV 1 hts gX5_takeOwner_X5_stop rfl rfl rfl (by decide +kernel) ⟨Nat.le_of_ble_eq_true rfl, Nat.le_of_ble_eq_true rfl⟩) rfl hl.1 rfl (Nat.le_of_ble_eq_true rfl) dX5_takeOwner_52) (fun H locs hP hD hS => ?_)
    have hP : va_P D vwCl (wd_X5_takeOwner cI cZ cR a_t a_t_text a_t_code a_t_waiting t_length t_codes t_waits (r11.1) (r11.2.1) t_at t_place t_sign t_number (r11.2.2) t_name t_compared t_open t_parentheses t_code_r) H := hP
    have hD : va_D A (wd_X5_takeOwner cI cZ cR a_t a_t_text a_t_code a_t_waiting t_length t_codes t_waits (r11.1) (r11.2.1) t_at t_place t_sign t_number (r11.2.2) t_name t_compared t_open t_parentheses t_code_r) := hD
    refine lv_goto (tgt := 109) hx hb dX5_takeOwner_55 (by decide) ?_
    cases hf
    exact retv X hK hP hD hS dX5_takeOwner_109
set_option maxHeartbeats 4000000 in
set_option maxRecDepth 100000 in
theorem w_X5_takeOwner_14 {p : Program} {l : Launch} {e : Env} {s : State} {m : MethodId} {args : Array Value} {below : List Frame} {meth : Method} {c : Code} {D : va_G} {cI cZ cR : ClassId} {A : Nat → Prop} {a_t a_t_text a_t_code a_t_waiting : Nat} {t_length : Int32} {t_waits : Int32} {t_at : Int32} {t_place : Int32} {t_sign : Int32} {t_number : Int32} {t_name : Int32} {t_compared : Int32} {t_open : Int32} {t_parentheses : Int32} {out : Int32 × Int32 × Int32 × Int32 × (Nat → Int32)} (X : cx p s m args meth c cX5_takeOwner 2 none RX5 wsX5_takeOwner) (hK : va_K D vwCl (ty3 cI cZ cR) s) (hA : ∀ q, s.heap.size ≤ q → A q) : ∀ (s0 : Int32) (t_codes : Int32) (t_fault : Int32) (t_faultPlace : Int32) (t_state : Int32) (t_code_r : Nat → Int32), F_X5_takeOwner_14 t_name t_number t_place t_sign s0 t_codes t_fault t_faultPlace t_state t_code_r = some out → ∀ (H : Heap) (locs : List Loc), va_P D vwCl (wd_X5_takeOwner cI cZ cR a_t a_t_text a_t_code a_t_waiting t_length t_codes t_waits t_fault t_faultPlace t_at t_place t_sign t_number t_state t_name t_compared t_open t_parentheses t_code_r) H → va_D A (wd_X5_takeOwner cI cZ cR a_t a_t_text a_t_code a_t_waiting t_length t_codes t_waits t_fault t_faultPlace t_at t_place t_sign t_number t_state t_name t_compared t_open t_parentheses t_code_r) → va_S A s.heap H locs → ∀ (ls : Array Slot), lv_has ls 2 [(0, .ref a_t)] → W p l e (headSpec wsX5_takeOwner ({ frames := 2, cells := 0, slots := 0, locals := 43 } : Room)).room s m args below meth c H locs 0 0 (MQ below (qv D cI cZ cR A (wd_X5_takeOwner cI cZ cR a_t a_t_text a_t_code a_t_waiting t_length (out.1) t_waits (out.2.1) (out.2.2.1) t_at t_place t_sign t_number (out.2.2.2.1) t_name t_compared t_open t_parentheses (out.2.2.2.2))) args s 0 0 A) (F0 m 14 ls [.int s0]) := by
  obtain ⟨hx, hb, hml, hr, hown, hts, hlocks, hN⟩ := id X
  intro s0 t_codes t_fault t_faultPlace t_state t_code_r hf H locs hP hD hS ls hl
  unfold F_X5_takeOwner_14 at hf
  refine lv_istore_n (lv' := [(1, .int s0), (0, .ref a_t)]) hx hb dX5_takeOwner_14 rfl hl (by decide) rfl (fun ls hl => ?_)
  refine lv_aload_n hx hb dX5_takeOwner_15 rfl (lv_at hl 1 rfl) ?_
  refine va_get (D := D) (ci := 5) (v := .int t_sign) (C := RX5) (T := TX5) (N := 17) hx hb hts in_X5_takeOwner_X5 hown hK hP 0 rfl rfl 10 (by decide) (hts (.fieldLink RX5 64 "DivisionHall$Reader" "sign" "I") (by decide +kernel)) (fun _ h9 => h9) rfl dX5_takeOwner_16 ?_
  refine lv_bipush (v := (6 : Int32)) hx hb dX5_takeOwner_19 (by decide) ?_
  refine lv_icmp_eq (tgt := 32) hx hb dX5_takeOwner_21 (by decide) (fun c2 => ?_) (fun c2 => ?_)
  · have hf := ipos c2 hf
    refine lv_aload_n hx hb dX5_takeOwner_32 rfl (lv_at hl 1 rfl) ?_
    refine va_get (D := D) (ci := 5) (v := .int t_number) (C := RX5) (T := TX5) (N := 17) hx hb hts in_X5_takeOwner_X5 hown hK hP 0 rfl rfl 11 (by decide) (hts (.fieldLink RX5 115 "DivisionHall$Reader" "number" "I") (by decide +kernel)) (fun _ h9 => h9) rfl dX5_takeOwner_33 ?_
    refine lv_iload_n hx hb dX5_takeOwner_36 rfl (lv_at hl 0 rfl) ?_
    refine lv_if_eq (tgt := 45) hx hb dX5_takeOwner_37 (by decide) (fun c3 => ?_) (fun c3 => ?_)
    · have hf := ipos c3 hf
      refine lv_bipush (v := (6 : Int32)) hx hb dX5_takeOwner_45 (by decide) ?_
      exact w_X5_takeOwner_47 X hK hA s0 (6 : Int32) t_number t_codes t_fault t_faultPlace t_state t_code_r hf _ _ hP hD hS _ (lv_sub hl [1, 0] rfl)
    · have hf := ineg c3 hf
      refine lv_bipush (v := (10 : Int32)) hx hb dX5_takeOwner_40 (by decide) ?_
      refine lv_goto (tgt := 47) hx hb dX5_takeOwner_42 (by decide) ?_
      exact w_X5_takeOwner_47 X hK hA s0 (10 : Int32) t_number t_codes t_fault t_faultPlace t_state t_code_r hf _ _ hP hD hS _ (lv_sub hl [1, 0] rfl)
  · have hf := ineg c2 hf
    refine lv_aload_n hx hb dX5_takeOwner_24 rfl (lv_at hl 1 rfl) ?_
    refine lv_iconst (v := (1 : Int32)) hx hb dX5_takeOwner_25 (by decide) ?_
    obtain ⟨r4, hr5, hf⟩ := bnd hf
    refine wcallv (D := D) (cI := cI) (cZ := cZ) (cR := cR) (wc := (wd_X5_stop cI cZ cR a_t a_t_text a_t_code a_t_waiting t_length t_codes t_waits t_fault t_faultPlace t_at t_place t_sign t_number t_state t_name t_compared t_open t_parentheses)) (w' := (wd_X5_stop cI cZ cR a_t a_t_text a_t_code a_t_waiting t_length t_codes t_waits (r4.1) (r4.2.1) t_at t_place t_sign t_number (r4.2.2) t_name t_compared t_open t_parentheses)) [0] hP hD hS hA rfl rfl rfl (rnV (As := [.int (1 : Int32)]) (ci := 5) (q0 := 0) X [0] hK hP hD rfl rfl rfl rfl (c_X5_stop l D cI cZ cR hr5) (cwV 1 hts gX5_takeOwner_X5_stop rfl rfl rfl (by decide +kernel) ⟨Nat.le_of_ble_eq_true rfl, Nat.le_of_ble_eq_true rfl⟩) rfl hl.1 rfl (Nat.le_of_ble_eq_true rfl) dX5_takeOwner_26) (fun H locs hP hD hS => ?_)
    have hP : va_P D vwCl (wd_X5_takeOwner cI cZ cR a_t a_t_text a_t_code a_t_waiting t_length t_codes t_waits (r4.1) (r4.2.1) t_at t_place t_sign t_number (r4.2.2) t_name t_compared t_open t_parentheses t_code_r) H := hP
    have hD : va_D A (wd_X5_takeOwner cI cZ cR a_t a_t_text a_t_code a_t_waiting t_length t_codes t_waits (r4.1) (r4.2.1) t_at t_place t_sign t_number (r4.2.2) t_name t_compared t_open t_parentheses t_code_r) := hD
    refine lv_goto (tgt := 109) hx hb dX5_takeOwner_29 (by decide) ?_
    cases hf
    exact retv X hK hP hD hS dX5_takeOwner_109
set_option maxHeartbeats 4000000 in
set_option maxRecDepth 100000 in
theorem c_X5_takeOwner (l : Launch) (D : va_G) (cI cZ cR : ClassId) {a_t a_t_text a_t_code a_t_waiting : Nat} {t_length : Int32} {t_codes : Int32} {t_waits : Int32} {t_fault : Int32} {t_faultPlace : Int32} {t_at : Int32} {t_place : Int32} {t_sign : Int32} {t_number : Int32} {t_state : Int32} {t_name : Int32} {t_compared : Int32} {t_open : Int32} {t_parentheses : Int32} {t_code_r : Nat → Int32} {sz : Nat} {out : Int32 × Int32 × Int32 × Int32 × (Nat → Int32)} (hf : F_X5_takeOwner t_codes t_fault t_faultPlace t_name t_number t_place t_sign t_state t_code_r = some out) : CV l yX5_takeOwner wsX5_takeOwner ({ frames := 2, cells := 0, slots := 0, locals := 43 } : Room) D cI cZ cR [.ref a_t] (wd_X5_takeOwner cI cZ cR a_t a_t_text a_t_code a_t_waiting t_length t_codes t_waits t_fault t_faultPlace t_at t_place t_sign t_number t_state t_name t_compared t_open t_parentheses t_code_r) sz (wd_X5_takeOwner cI cZ cR a_t a_t_text a_t_code a_t_waiting t_length (out.1) t_waits (out.2.1) (out.2.2.1) t_at t_place t_sign t_number (out.2.2.2.1) t_name t_compared t_open t_parentheses (out.2.2.2.2)) := by
  refine met_of (Qf := fun A => qv D cI cZ cR A (wd_X5_takeOwner cI cZ cR a_t a_t_text a_t_code a_t_waiting t_length (out.1) t_waits (out.2.1) (out.2.2.1) t_at t_place t_sign t_number (out.2.2.2.1) t_name t_compared t_open t_parentheses (out.2.2.2.2))) RX5 (by decide +kernel) rfl rfl (Nat.le_of_ble_eq_true rfl) ?_
  intro p e s m below meth c A X hK hA hP hD hS ls hl
  have hl : lv_has ls 2 [(0, .ref a_t)] := hl
  obtain ⟨hx, hb, hml, hr, hown, hts, hlocks, hN⟩ := id X
  unfold F_X5_takeOwner at hf
  refine lv_aload_n hx hb dX5_takeOwner_0 rfl (lv_at hl 0 rfl) ?_
  refine va_get (D := D) (ci := 5) (v := .int t_name) (C := RX5) (T := TX5) (N := 17) hx hb hts in_X5_takeOwner_X5 hown hK hP 0 rfl rfl 13 (by decide) (hts (.fieldLink RX5 118 "DivisionHall$Reader" "name" "I") (by decide +kernel)) (fun _ h9 => h9) rfl dX5_takeOwner_1 ?_
  refine lv_bipush (v := (11 : Int32)) hx hb dX5_takeOwner_4 (by decide) ?_
  refine lv_icmp_ne (tgt := 13) hx hb dX5_takeOwner_6 (by decide) (fun c1 => ?_) (fun c1 => ?_)
  · have hf := ineg c1 hf
    refine lv_iconst (v := (0 : Int32)) hx hb dX5_takeOwner_13 (by decide) ?_
    exact w_X5_takeOwner_14 X hK hA (0 : Int32) t_codes t_fault t_faultPlace t_state t_code_r hf _ _ hP hD hS _ (lv_sub hl [0] rfl)
  · have hf := ipos c1 hf
    refine lv_iconst (v := (1 : Int32)) hx hb dX5_takeOwner_9 (by decide) ?_
    refine lv_goto (tgt := 14) hx hb dX5_takeOwner_10 (by decide) ?_
    exact w_X5_takeOwner_14 X hK hA (1 : Int32) t_codes t_fault t_faultPlace t_state t_code_r hf _ _ hP hD hS _ (lv_sub hl [0] rfl)

abbrev wd_X5_takeToken (cI cZ cR : ClassId) (a_t a_t_text a_t_code a_t_waiting : Nat) (t_length t_codes t_waits t_fault t_faultPlace t_at t_place t_sign t_number t_state t_name t_compared t_open t_parentheses : Int32) (t_code_r : Nat → Int32) (t_waiting_r : Nat → Int32) : va_W := [(a_t, oB 5 [.ref a_t_text, .ref a_t_code, .ref a_t_waiting, .int t_length, .int t_codes, .int t_waits, .int t_fault, .int t_faultPlace, .int t_at, .int t_place, .int t_sign, .int t_number, .int t_state, .int t_name, .int t_compared, .int t_open, .int t_parentheses]), (a_t_code, aI cI 400 t_code_r), (a_t_waiting, aI cI 40 t_waiting_r)]
def F_X5_takeToken_60 (t_number : Int32) (t_place : Int32) (t_sign : Int32) (t_codes : Int32) (t_compared : Int32) (t_fault : Int32) (t_faultPlace : Int32) (t_name : Int32) (t_open : Int32) (t_parentheses : Int32) (t_state : Int32) (t_waits : Int32) (t_code_r : Nat → Int32) (t_waiting_r : Nat → Int32) : Option (Int32 × Int32 × Int32 × Int32 × Int32 × Int32 × Int32 × Int32 × Int32 × (Nat → Int32) × (Nat → Int32)) := (if t_state = (0 : Int32) then ((F_X5_takeClause t_codes t_compared t_fault t_faultPlace t_name t_number t_open t_parentheses t_place t_sign t_state t_waits t_code_r t_waiting_r).bind (fun r11 => (some ((r11.1), (r11.2.1), (r11.2.2.1), (r11.2.2.2.1), (r11.2.2.2.2.1), (r11.2.2.2.2.2.1), (r11.2.2.2.2.2.2.1), (r11.2.2.2.2.2.2.2.1), (r11.2.2.2.2.2.2.2.2.1), (r11.2.2.2.2.2.2.2.2.2.1), (r11.2.2.2.2.2.2.2.2.2.2))))) else (if t_state = (1 : Int32) then ((F_X5_takeUnit t_codes t_fault t_faultPlace t_name t_number t_place t_sign t_state t_code_r).bind (fun r14 => (some ((r14.1), t_compared, (r14.2.1), (r14.2.2.1), (r14.2.2.2.1), t_open, t_parentheses, (r14.2.2.2.2.1), t_waits, (r14.2.2.2.2.2), t_waiting_r)))) else (if t_state = (2 : Int32) then ((F_X5_takeOwner t_codes t_fault t_faultPlace t_name t_number t_place t_sign t_state t_code_r).bind (fun r17 => (some ((r17.1), t_compared, (r17.2.1), (r17.2.2.1), t_name, t_open, t_parentheses, (r17.2.2.2.1), t_waits, (r17.2.2.2.2), t_waiting_r)))) else (if t_state = (3 : Int32) then (some (t_codes, t_compared, t_fault, t_faultPlace, t_name, t_open, t_parentheses, (2 : Int32), t_waits, t_code_r, t_waiting_r)) else (if t_state = (4 : Int32) then ((F_X5_takeBehindUnit t_codes t_compared t_fault t_faultPlace t_open t_place t_sign t_state t_waits t_code_r t_waiting_r).bind (fun r21 => (some ((r21.1), (r21.2.1), (r21.2.2.1), (r21.2.2.2.1), t_name, (r21.2.2.2.2.1), t_parentheses, (r21.2.2.2.2.2.1), (r21.2.2.2.2.2.2.1), (r21.2.2.2.2.2.2.2.1), (r21.2.2.2.2.2.2.2.2))))) else (if t_state = (5 : Int32) then ((F_X5_takeBehindClause t_codes t_fault t_faultPlace t_open t_parentheses t_place t_sign t_state t_waits t_code_r t_waiting_r).bind (fun r24 => (some ((r24.1), t_compared, (r24.2.1), (r24.2.2.1), t_name, (r24.2.2.2.1), (r24.2.2.2.2.1), (r24.2.2.2.2.2.1), (r24.2.2.2.2.2.2.1), (r24.2.2.2.2.2.2.2.1), (r24.2.2.2.2.2.2.2.2))))) else (if t_state = (6 : Int32) then ((F_X5_takeLast t_fault t_faultPlace t_place t_sign t_state).bind (fun r27 => (some (t_codes, t_compared, (r27.1), (r27.2.1), t_name, t_open, t_parentheses, (r27.2.2), t_waits, t_code_r, t_waiting_r)))) else (if t_state = (7 : Int32) then ((F_X5_takeFirst t_codes t_compared t_fault t_faultPlace t_name t_number t_open t_parentheses t_place t_sign t_state t_waits t_code_r t_waiting_r).bind (fun r30 => (some ((r30.1), (r30.2.1), (r30.2.2.1), (r30.2.2.2.1), (r30.2.2.2.2.1), (r30.2.2.2.2.2.1), (r30.2.2.2.2.2.2.1), (r30.2.2.2.2.2.2.2.1), (r30.2.2.2.2.2.2.2.2.1), (r30.2.2.2.2.2.2.2.2.2.1), (r30.2.2.2.2.2.2.2.2.2.2))))) else ((F_X5_takeLast t_fault t_faultPlace t_place t_sign t_state).bind (fun r32 => (some (t_codes, t_compared, (r32.1), (r32.2.1), t_name, t_open, t_parentheses, (r32.2.2), t_waits, t_code_r, t_waiting_r))))))))))))
def F_X5_takeToken_30 (t_number : Int32) (t_place : Int32) (t_sign : Int32) (t_codes : Int32) (t_compared : Int32) (t_fault : Int32) (t_faultPlace : Int32) (t_name : Int32) (t_open : Int32) (t_parentheses : Int32) (t_state : Int32) (t_waits : Int32) (t_code_r : Nat → Int32) (t_waiting_r : Nat → Int32) : Option (Int32 × Int32 × Int32 × Int32 × Int32 × Int32 × Int32 × Int32 × Int32 × (Nat → Int32) × (Nat → Int32)) := (if t_state = (4 : Int32) then (if t_compared = 0 then (F_X5_takeToken_60 t_number t_place t_sign t_codes t_compared t_fault t_faultPlace t_name t_open t_parentheses t_state t_waits t_code_r t_waiting_r) else ((F_X8_isSum t_sign).bind (fun r7 => (if r7 = 0 then (F_X5_takeToken_60 t_number t_place t_sign t_codes t_compared t_fault t_faultPlace t_name t_open t_parentheses (5 : Int32) t_waits t_code_r t_waiting_r) else (F_X5_takeToken_60 t_number t_place t_sign t_codes t_compared t_fault t_faultPlace t_name t_open t_parentheses t_state t_waits t_code_r t_waiting_r))))) else (F_X5_takeToken_60 t_number t_place t_sign t_codes t_compared t_fault t_faultPlace t_name t_open t_parentheses t_state t_waits t_code_r t_waiting_r))
def F_X5_takeToken (t_codes : Int32) (t_compared : Int32) (t_fault : Int32) (t_faultPlace : Int32) (t_name : Int32) (t_number : Int32) (t_open : Int32) (t_parentheses : Int32) (t_place : Int32) (t_sign : Int32) (t_state : Int32) (t_waits : Int32) (t_code_r : Nat → Int32) (t_waiting_r : Nat → Int32) : Option (Int32 × Int32 × Int32 × Int32 × Int32 × Int32 × Int32 × Int32 × Int32 × (Nat → Int32) × (Nat → Int32)) := (if t_state = (3 : Int32) then (if t_sign = (5 : Int32) then (F_X5_takeToken_30 t_number t_place t_sign t_codes t_compared t_fault t_faultPlace t_name t_open t_parentheses t_state t_waits t_code_r t_waiting_r) else ((F_X5_emit t_name (0 : Int32) t_codes t_code_r).bind (fun r3 => (F_X5_takeToken_30 t_number t_place t_sign (r3.1) t_compared t_fault t_faultPlace t_name t_open t_parentheses (4 : Int32) t_waits (r3.2) t_waiting_r)))) else (F_X5_takeToken_30 t_number t_place t_sign t_codes t_compared t_fault t_faultPlace t_name t_open t_parentheses t_state t_waits t_code_r t_waiting_r))
set_option maxRecDepth 100000 in
theorem in_X5_takeToken_X5 : ∀ w ∈ wsX50, w ∈ wsX5_takeToken := by decide +kernel
set_option maxHeartbeats 4000000 in
set_option maxRecDepth 100000 in
theorem w_X5_takeToken_60 {p : Program} {l : Launch} {e : Env} {s : State} {m : MethodId} {args : Array Value} {below : List Frame} {meth : Method} {c : Code} {D : va_G} {cI cZ cR : ClassId} {A : Nat → Prop} {a_t a_t_text a_t_code a_t_waiting : Nat} {t_length : Int32} {t_at : Int32} {t_place : Int32} {t_sign : Int32} {t_number : Int32} {out : Int32 × Int32 × Int32 × Int32 × Int32 × Int32 × Int32 × Int32 × Int32 × (Nat → Int32) × (Nat → Int32)} (X : cx p s m args meth c cX5_takeToken 1 none RX5 wsX5_takeToken) (hK : va_K D vwCl (ty3 cI cZ cR) s) (hA : ∀ q, s.heap.size ≤ q → A q) : ∀ (t_codes : Int32) (t_compared : Int32) (t_fault : Int32) (t_faultPlace : Int32) (t_name : Int32) (t_open : Int32) (t_parentheses : Int32) (t_state : Int32) (t_waits : Int32) (t_code_r : Nat → Int32) (t_waiting_r : Nat → Int32), F_X5_takeToken_60 t_number t_place t_sign t_codes t_compared t_fault t_faultPlace t_name t_open t_parentheses t_state t_waits t_code_r t_waiting_r = some out → ∀ (H : Heap) (locs : List Loc), va_P D vwCl (wd_X5_takeToken cI cZ cR a_t a_t_text a_t_code a_t_waiting t_length t_codes t_waits t_fault t_faultPlace t_at t_place t_sign t_number t_state t_name t_compared t_open t_parentheses t_code_r t_waiting_r) H → va_D A (wd_X5_takeToken cI cZ cR a_t a_t_text a_t_code a_t_waiting t_length t_codes t_waits t_fault t_faultPlace t_at t_place t_sign t_number t_state t_name t_compared t_open t_parentheses t_code_r t_waiting_r) → va_S A s.heap H locs → ∀ (ls : Array Slot), lv_has ls 1 [(0, .ref a_t)] → W p l e (headSpec wsX5_takeToken ({ frames := 5, cells := 0, slots := 0, locals := 103 } : Room)).room s m args below meth c H locs 0 0 (MQ below (qv D cI cZ cR A (wd_X5_takeToken cI cZ cR a_t a_t_text a_t_code a_t_waiting t_length (out.1) (out.2.2.2.2.2.2.2.2.1) (out.2.2.1) (out.2.2.2.1) t_at t_place t_sign t_number (out.2.2.2.2.2.2.2.1) (out.2.2.2.2.1) (out.2.1) (out.2.2.2.2.2.1) (out.2.2.2.2.2.2.1) (out.2.2.2.2.2.2.2.2.2.1) (out.2.2.2.2.2.2.2.2.2.2))) args s 0 0 A) (F0 m 60 ls []) := by
  obtain ⟨hx, hb, hml, hr, hown, hts, hlocks, hN⟩ := id X
  intro t_codes t_compared t_fault t_faultPlace t_name t_open t_parentheses t_state t_waits t_code_r t_waiting_r hf H locs hP hD hS ls hl
  unfold F_X5_takeToken_60 at hf
  refine lv_aload_n hx hb dX5_takeToken_60 rfl (lv_at hl 0 rfl) ?_
  refine va_get (D := D) (ci := 5) (v := .int t_state) (C := RX5) (T := TX5) (N := 17) hx hb hts in_X5_takeToken_X5 hown hK hP 0 rfl rfl 12 (by decide) (hts (.fieldLink RX5 50 "DivisionHall$Reader" "state" "I") (by decide +kernel)) (fun _ h9 => h9) rfl dX5_takeToken_61 ?_
  by_cases c10 : t_state = (0 : Int32)
  · have hf := ipos c10 hf
    refine lv_tableIn (tgt := 119) hx hb dX5_takeToken_64 (by rw [c10]; decide) (by rw [c10]; decide) (by rw [c10]; rfl) (by decide) ?_
    refine lv_aload_n hx hb dX5_takeToken_119 rfl (lv_at hl 0 rfl) ?_
    obtain ⟨r11, hr12, hf⟩ := bnd hf
    refine wcallv (D := D) (cI := cI) (cZ := cZ) (cR := cR) (wc := (wd_X5_takeClause cI cZ cR a_t a_t_text a_t_code a_t_waiting t_length t_codes t_waits t_fault t_faultPlace t_at t_place t_sign t_number t_state t_name t_compared t_open t_parentheses t_code_r t_waiting_r)) (w' := (wd_X5_takeClause cI cZ cR a_t a_t_text a_t_code a_t_waiting t_length (r11.1) (r11.2.2.2.2.2.2.2.2.1) (r11.2.2.1) (r11.2.2.2.1) t_at t_place t_sign t_number (r11.2.2.2.2.2.2.2.1) (r11.2.2.2.2.1) (r11.2.1) (r11.2.2.2.2.2.1) (r11.2.2.2.2.2.2.1) (r11.2.2.2.2.2.2.2.2.2.1) (r11.2.2.2.2.2.2.2.2.2.2))) [0, 1, 2] hP hD hS hA rfl rfl rfl (rnV (As := []) (ci := 5) (q0 := 0) X [0, 1, 2] hK hP hD rfl rfl rfl rfl (c_X5_takeClause l D cI cZ cR hr12) (cwV 0 hts gX5_takeToken_X5_takeClause rfl rfl rfl (by decide +kernel) ⟨Nat.le_of_ble_eq_true rfl, Nat.le_of_ble_eq_true rfl⟩) rfl hl.1 rfl (Nat.le_of_ble_eq_true rfl) dX5_takeToken_120) (fun H locs hP hD hS => ?_)
    have hP : va_P D vwCl (wd_X5_takeToken cI cZ cR a_t a_t_text a_t_code a_t_waiting t_length (r11.1) (r11.2.2.2.2.2.2.2.2.1) (r11.2.2.1) (r11.2.2.2.1) t_at t_place t_sign t_number (r11.2.2.2.2.2.2.2.1) (r11.2.2.2.2.1) (r11.2.1) (r11.2.2.2.2.2.1) (r11.2.2.2.2.2.2.1) (r11.2.2.2.2.2.2.2.2.2.1) (r11.2.2.2.2.2.2.2.2.2.2)) H := hP
    have hD : va_D A (wd_X5_takeToken cI cZ cR a_t a_t_text a_t_code a_t_waiting t_length (r11.1) (r11.2.2.2.2.2.2.2.2.1) (r11.2.2.1) (r11.2.2.2.1) t_at t_place t_sign t_number (r11.2.2.2.2.2.2.2.1) (r11.2.2.2.2.1) (r11.2.1) (r11.2.2.2.2.2.1) (r11.2.2.2.2.2.2.1) (r11.2.2.2.2.2.2.2.2.2.1) (r11.2.2.2.2.2.2.2.2.2.2)) := hD
    refine lv_goto (tgt := 166) hx hb dX5_takeToken_123 (by decide) ?_
    cases hf
    exact retv X hK hP hD hS dX5_takeToken_166
  have hf := ineg c10 hf
  by_cases c13 : t_state = (1 : Int32)
  · have hf := ipos c13 hf
    refine lv_tableIn (tgt := 126) hx hb dX5_takeToken_64 (by rw [c13]; decide) (by rw [c13]; decide) (by rw [c13]; rfl) (by decide) ?_
    refine lv_aload_n hx hb dX5_takeToken_126 rfl (lv_at hl 0 rfl) ?_
    obtain ⟨r14, hr15, hf⟩ := bnd hf
    refine wcallv (D := D) (cI := cI) (cZ := cZ) (cR := cR) (wc := (wd_X5_takeUnit cI cZ cR a_t a_t_text a_t_code a_t_waiting t_length t_codes t_waits t_fault t_faultPlace t_at t_place t_sign t_number t_state t_name t_compared t_open t_parentheses t_code_r)) (w' := (wd_X5_takeUnit cI cZ cR a_t a_t_text a_t_code a_t_waiting t_length (r14.1) t_waits (r14.2.1) (r14.2.2.1) t_at t_place t_sign t_number (r14.2.2.2.2.1) (r14.2.2.2.1) t_compared t_open t_parentheses (r14.2.2.2.2.2))) [0, 1] hP hD hS hA rfl rfl rfl (rnV (As := []) (ci := 5) (q0 := 0) X [0, 1] hK hP hD rfl rfl rfl rfl (c_X5_takeUnit l D cI cZ cR hr15) (cwV 0 hts gX5_takeToken_X5_takeUnit rfl rfl rfl (by decide +kernel) ⟨Nat.le_of_ble_eq_true rfl, Nat.le_of_ble_eq_true rfl⟩) rfl hl.1 rfl (Nat.le_of_ble_eq_true rfl) dX5_takeToken_127) (fun H locs hP hD hS => ?_)
    have hP : va_P D vwCl (wd_X5_takeToken cI cZ cR a_t a_t_text a_t_code a_t_waiting t_length (r14.1) t_waits (r14.2.1) (r14.2.2.1) t_at t_place t_sign t_number (r14.2.2.2.2.1) (r14.2.2.2.1) t_compared t_open t_parentheses (r14.2.2.2.2.2) t_waiting_r) H := hP
    have hD : va_D A (wd_X5_takeToken cI cZ cR a_t a_t_text a_t_code a_t_waiting t_length (r14.1) t_waits (r14.2.1) (r14.2.2.1) t_at t_place t_sign t_number (r14.2.2.2.2.1) (r14.2.2.2.1) t_compared t_open t_parentheses (r14.2.2.2.2.2) t_waiting_r) := hD
    refine lv_goto (tgt := 166) hx hb dX5_takeToken_130 (by decide) ?_
    cases hf
    exact retv X hK hP hD hS dX5_takeToken_166
  have hf := ineg c13 hf
  by_cases c16 : t_state = (2 : Int32)
  · have hf := ipos c16 hf
    refine lv_tableIn (tgt := 133) hx hb dX5_takeToken_64 (by rw [c16]; decide) (by rw [c16]; decide) (by rw [c16]; rfl) (by decide) ?_
    refine lv_aload_n hx hb dX5_takeToken_133 rfl (lv_at hl 0 rfl) ?_
    obtain ⟨r17, hr18, hf⟩ := bnd hf
    refine wcallv (D := D) (cI := cI) (cZ := cZ) (cR := cR) (wc := (wd_X5_takeOwner cI cZ cR a_t a_t_text a_t_code a_t_waiting t_length t_codes t_waits t_fault t_faultPlace t_at t_place t_sign t_number t_state t_name t_compared t_open t_parentheses t_code_r)) (w' := (wd_X5_takeOwner cI cZ cR a_t a_t_text a_t_code a_t_waiting t_length (r17.1) t_waits (r17.2.1) (r17.2.2.1) t_at t_place t_sign t_number (r17.2.2.2.1) t_name t_compared t_open t_parentheses (r17.2.2.2.2))) [0, 1] hP hD hS hA rfl rfl rfl (rnV (As := []) (ci := 5) (q0 := 0) X [0, 1] hK hP hD rfl rfl rfl rfl (c_X5_takeOwner l D cI cZ cR hr18) (cwV 0 hts gX5_takeToken_X5_takeOwner rfl rfl rfl (by decide +kernel) ⟨Nat.le_of_ble_eq_true rfl, Nat.le_of_ble_eq_true rfl⟩) rfl hl.1 rfl (Nat.le_of_ble_eq_true rfl) dX5_takeToken_134) (fun H locs hP hD hS => ?_)
    have hP : va_P D vwCl (wd_X5_takeToken cI cZ cR a_t a_t_text a_t_code a_t_waiting t_length (r17.1) t_waits (r17.2.1) (r17.2.2.1) t_at t_place t_sign t_number (r17.2.2.2.1) t_name t_compared t_open t_parentheses (r17.2.2.2.2) t_waiting_r) H := hP
    have hD : va_D A (wd_X5_takeToken cI cZ cR a_t a_t_text a_t_code a_t_waiting t_length (r17.1) t_waits (r17.2.1) (r17.2.2.1) t_at t_place t_sign t_number (r17.2.2.2.1) t_name t_compared t_open t_parentheses (r17.2.2.2.2) t_waiting_r) := hD
    refine lv_goto (tgt := 166) hx hb dX5_takeToken_137 (by decide) ?_
    cases hf
    exact retv X hK hP hD hS dX5_takeToken_166
  have hf := ineg c16 hf
  by_cases c19 : t_state = (3 : Int32)
  · have hf := ipos c19 hf
    refine lv_tableIn (tgt := 140) hx hb dX5_takeToken_64 (by rw [c19]; decide) (by rw [c19]; decide) (by rw [c19]; rfl) (by decide) ?_
    refine lv_aload_n hx hb dX5_takeToken_140 rfl (lv_at hl 0 rfl) ?_
    refine lv_iconst (v := (2 : Int32)) hx hb dX5_takeToken_141 (by decide) ?_
    refine va_put (D := D) (ci := 5) (v := .int (2 : Int32)) (ty := .int) (C := RX5) (T := TX5) (N := 17) hx hb hts in_X5_takeToken_X5 tyX5 tyX5_ok nmX5 hown hK hP hD hS 0 rfl rfl 12 (by decide) (hts (.fieldLink RX5 50 "DivisionHall$Reader" "state" "I") (by decide +kernel)) (fun _ h9 => h9) rfl (by decide +kernel) rfl rfl (Nat.le_of_ble_eq_true rfl) dX5_takeToken_142 (fun H locs hP hD hS => ?_)
    have hP : va_P D vwCl (wd_X5_takeToken cI cZ cR a_t a_t_text a_t_code a_t_waiting t_length t_codes t_waits t_fault t_faultPlace t_at t_place t_sign t_number (2 : Int32) t_name t_compared t_open t_parentheses t_code_r t_waiting_r) H := hP
    have hD : va_D A (wd_X5_takeToken cI cZ cR a_t a_t_text a_t_code a_t_waiting t_length t_codes t_waits t_fault t_faultPlace t_at t_place t_sign t_number (2 : Int32) t_name t_compared t_open t_parentheses t_code_r t_waiting_r) := hD
    refine lv_goto (tgt := 166) hx hb dX5_takeToken_145 (by decide) ?_
    cases hf
    exact retv X hK hP hD hS dX5_takeToken_166
  have hf := ineg c19 hf
  by_cases c20 : t_state = (4 : Int32)
  · have hf := ipos c20 hf
    refine lv_tableIn (tgt := 148) hx hb dX5_takeToken_64 (by rw [c20]; decide) (by rw [c20]; decide) (by rw [c20]; rfl) (by decide) ?_
    refine lv_aload_n hx hb dX5_takeToken_148 rfl (lv_at hl 0 rfl) ?_
    obtain ⟨r21, hr22, hf⟩ := bnd hf
    refine wcallv (D := D) (cI := cI) (cZ := cZ) (cR := cR) (wc := (wd_X5_takeBehindUnit cI cZ cR a_t a_t_text a_t_code a_t_waiting t_length t_codes t_waits t_fault t_faultPlace t_at t_place t_sign t_number t_state t_name t_compared t_open t_parentheses t_code_r t_waiting_r)) (w' := (wd_X5_takeBehindUnit cI cZ cR a_t a_t_text a_t_code a_t_waiting t_length (r21.1) (r21.2.2.2.2.2.2.1) (r21.2.2.1) (r21.2.2.2.1) t_at t_place t_sign t_number (r21.2.2.2.2.2.1) t_name (r21.2.1) (r21.2.2.2.2.1) t_parentheses (r21.2.2.2.2.2.2.2.1) (r21.2.2.2.2.2.2.2.2))) [0, 1, 2] hP hD hS hA rfl rfl rfl (rnV (As := []) (ci := 5) (q0 := 0) X [0, 1, 2] hK hP hD rfl rfl rfl rfl (c_X5_takeBehindUnit l D cI cZ cR hr22) (cwV 0 hts gX5_takeToken_X5_takeBehindUnit rfl rfl rfl (by decide +kernel) ⟨Nat.le_of_ble_eq_true rfl, Nat.le_of_ble_eq_true rfl⟩) rfl hl.1 rfl (Nat.le_of_ble_eq_true rfl) dX5_takeToken_149) (fun H locs hP hD hS => ?_)
    have hP : va_P D vwCl (wd_X5_takeToken cI cZ cR a_t a_t_text a_t_code a_t_waiting t_length (r21.1) (r21.2.2.2.2.2.2.1) (r21.2.2.1) (r21.2.2.2.1) t_at t_place t_sign t_number (r21.2.2.2.2.2.1) t_name (r21.2.1) (r21.2.2.2.2.1) t_parentheses (r21.2.2.2.2.2.2.2.1) (r21.2.2.2.2.2.2.2.2)) H := hP
    have hD : va_D A (wd_X5_takeToken cI cZ cR a_t a_t_text a_t_code a_t_waiting t_length (r21.1) (r21.2.2.2.2.2.2.1) (r21.2.2.1) (r21.2.2.2.1) t_at t_place t_sign t_number (r21.2.2.2.2.2.1) t_name (r21.2.1) (r21.2.2.2.2.1) t_parentheses (r21.2.2.2.2.2.2.2.1) (r21.2.2.2.2.2.2.2.2)) := hD
    refine lv_goto (tgt := 166) hx hb dX5_takeToken_152 (by decide) ?_
    cases hf
    exact retv X hK hP hD hS dX5_takeToken_166
  have hf := ineg c20 hf
  by_cases c23 : t_state = (5 : Int32)
  · have hf := ipos c23 hf
    refine lv_tableIn (tgt := 155) hx hb dX5_takeToken_64 (by rw [c23]; decide) (by rw [c23]; decide) (by rw [c23]; rfl) (by decide) ?_
    refine lv_aload_n hx hb dX5_takeToken_155 rfl (lv_at hl 0 rfl) ?_
    obtain ⟨r24, hr25, hf⟩ := bnd hf
    refine wcallv (D := D) (cI := cI) (cZ := cZ) (cR := cR) (wc := (wd_X5_takeBehindClause cI cZ cR a_t a_t_text a_t_code a_t_waiting t_length t_codes t_waits t_fault t_faultPlace t_at t_place t_sign t_number t_state t_name t_compared t_open t_parentheses t_code_r t_waiting_r)) (w' := (wd_X5_takeBehindClause cI cZ cR a_t a_t_text a_t_code a_t_waiting t_length (r24.1) (r24.2.2.2.2.2.2.1) (r24.2.1) (r24.2.2.1) t_at t_place t_sign t_number (r24.2.2.2.2.2.1) t_name t_compared (r24.2.2.2.1) (r24.2.2.2.2.1) (r24.2.2.2.2.2.2.2.1) (r24.2.2.2.2.2.2.2.2))) [0, 1, 2] hP hD hS hA rfl rfl rfl (rnV (As := []) (ci := 5) (q0 := 0) X [0, 1, 2] hK hP hD rfl rfl rfl rfl (c_X5_takeBehindClause l D cI cZ cR hr25) (cwV 0 hts gX5_takeToken_X5_takeBehindClause rfl rfl rfl (by decide +kernel) ⟨Nat.le_of_ble_eq_true rfl, Nat.le_of_ble_eq_true rfl⟩) rfl hl.1 rfl (Nat.le_of_ble_eq_true rfl) dX5_takeToken_156) (fun H locs hP hD hS => ?_)
    have hP : va_P D vwCl (wd_X5_takeToken cI cZ cR a_t a_t_text a_t_code a_t_waiting t_length (r24.1) (r24.2.2.2.2.2.2.1) (r24.2.1) (r24.2.2.1) t_at t_place t_sign t_number (r24.2.2.2.2.2.1) t_name t_compared (r24.2.2.2.1) (r24.2.2.2.2.1) (r24.2.2.2.2.2.2.2.1) (r24.2.2.2.2.2.2.2.2)) H := hP
    have hD : va_D A (wd_X5_takeToken cI cZ cR a_t a_t_text a_t_code a_t_waiting t_length (r24.1) (r24.2.2.2.2.2.2.1) (r24.2.1) (r24.2.2.1) t_at t_place t_sign t_number (r24.2.2.2.2.2.1) t_name t_compared (r24.2.2.2.1) (r24.2.2.2.2.1) (r24.2.2.2.2.2.2.2.1) (r24.2.2.2.2.2.2.2.2)) := hD
    refine lv_goto (tgt := 166) hx hb dX5_takeToken_159 (by decide) ?_
    cases hf
    exact retv X hK hP hD hS dX5_takeToken_166
  have hf := ineg c23 hf
  by_cases c26 : t_state = (6 : Int32)
  · have hf := ipos c26 hf
    refine lv_tableIn (tgt := 162) hx hb dX5_takeToken_64 (by rw [c26]; decide) (by rw [c26]; decide) (by rw [c26]; rfl) (by decide) ?_
    refine lv_aload_n hx hb dX5_takeToken_162 rfl (lv_at hl 0 rfl) ?_
    obtain ⟨r27, hr28, hf⟩ := bnd hf
    refine wcallv (D := D) (cI := cI) (cZ := cZ) (cR := cR) (wc := (wd_X5_takeLast cI cZ cR a_t a_t_text a_t_code a_t_waiting t_length t_codes t_waits t_fault t_faultPlace t_at t_place t_sign t_number t_state t_name t_compared t_open t_parentheses)) (w' := (wd_X5_takeLast cI cZ cR a_t a_t_text a_t_code a_t_waiting t_length t_codes t_waits (r27.1) (r27.2.1) t_at t_place t_sign t_number (r27.2.2) t_name t_compared t_open t_parentheses)) [0] hP hD hS hA rfl rfl rfl (rnV (As := []) (ci := 5) (q0 := 0) X [0] hK hP hD rfl rfl rfl rfl (c_X5_takeLast l D cI cZ cR hr28) (cwV 0 hts gX5_takeToken_X5_takeLast rfl rfl rfl (by decide +kernel) ⟨Nat.le_of_ble_eq_true rfl, Nat.le_of_ble_eq_true rfl⟩) rfl hl.1 rfl (Nat.le_of_ble_eq_true rfl) dX5_takeToken_163) (fun H locs hP hD hS => ?_)
    have hP : va_P D vwCl (wd_X5_takeToken cI cZ cR a_t a_t_text a_t_code a_t_waiting t_length t_codes t_waits (r27.1) (r27.2.1) t_at t_place t_sign t_number (r27.2.2) t_name t_compared t_open t_parentheses t_code_r t_waiting_r) H := hP
    have hD : va_D A (wd_X5_takeToken cI cZ cR a_t a_t_text a_t_code a_t_waiting t_length t_codes t_waits (r27.1) (r27.2.1) t_at t_place t_sign t_number (r27.2.2) t_name t_compared t_open t_parentheses t_code_r t_waiting_r) := hD
    cases hf
    exact retv X hK hP hD hS dX5_takeToken_166
  have hf := ineg c26 hf
  by_cases c29 : t_state = (7 : Int32)
  · have hf := ipos c29 hf
    refine lv_tableIn (tgt := 112) hx hb dX5_takeToken_64 (by rw [c29]; decide) (by rw [c29]; decide) (by rw [c29]; rfl) (by decide) ?_
    refine lv_aload_n hx hb dX5_takeToken_112 rfl (lv_at hl 0 rfl) ?_
    obtain ⟨r30, hr31, hf⟩ := bnd hf
    refine wcallv (D := D) (cI := cI) (cZ := cZ) (cR := cR) (wc := (wd_X5_takeFirst cI cZ cR a_t a_t_text a_t_code a_t_waiting t_length t_codes t_waits t_fault t_faultPlace t_at t_place t_sign t_number t_state t_name t_compared t_open t_parentheses t_code_r t_waiting_r)) (w' := (wd_X5_takeFirst cI cZ cR a_t a_t_text a_t_code a_t_waiting t_length (r30.1) (r30.2.2.2.2.2.2.2.2.1) (r30.2.2.1) (r30.2.2.2.1) t_at t_place t_sign t_number (r30.2.2.2.2.2.2.2.1) (r30.2.2.2.2.1) (r30.2.1) (r30.2.2.2.2.2.1) (r30.2.2.2.2.2.2.1) (r30.2.2.2.2.2.2.2.2.2.1) (r30.2.2.2.2.2.2.2.2.2.2))) [0, 1, 2] hP hD hS hA rfl rfl rfl (rnV (As := []) (ci := 5) (q0 := 0) X [0, 1, 2] hK hP hD rfl rfl rfl rfl (c_X5_takeFirst l D cI cZ cR hr31) (cwV 0 hts gX5_takeToken_X5_takeFirst rfl rfl rfl (by decide +kernel) ⟨Nat.le_of_ble_eq_true rfl, Nat.le_of_ble_eq_true rfl⟩) rfl hl.1 rfl (Nat.le_of_ble_eq_true rfl) dX5_takeToken_113) (fun H locs hP hD hS => ?_)
    have hP : va_P D vwCl (wd_X5_takeToken cI cZ cR a_t a_t_text a_t_code a_t_waiting t_length (r30.1) (r30.2.2.2.2.2.2.2.2.1) (r30.2.2.1) (r30.2.2.2.1) t_at t_place t_sign t_number (r30.2.2.2.2.2.2.2.1) (r30.2.2.2.2.1) (r30.2.1) (r30.2.2.2.2.2.1) (r30.2.2.2.2.2.2.1) (r30.2.2.2.2.2.2.2.2.2.1) (r30.2.2.2.2.2.2.2.2.2.2)) H := hP
    have hD : va_D A (wd_X5_takeToken cI cZ cR a_t a_t_text a_t_code a_t_waiting t_length (r30.1) (r30.2.2.2.2.2.2.2.2.1) (r30.2.2.1) (r30.2.2.2.1) t_at t_place t_sign t_number (r30.2.2.2.2.2.2.2.1) (r30.2.2.2.2.1) (r30.2.1) (r30.2.2.2.2.2.1) (r30.2.2.2.2.2.2.1) (r30.2.2.2.2.2.2.2.2.2.1) (r30.2.2.2.2.2.2.2.2.2.2)) := hD
    refine lv_goto (tgt := 166) hx hb dX5_takeToken_116 (by decide) ?_
    cases hf
    exact retv X hK hP hD hS dX5_takeToken_166
  have hf := ineg c29 hf
  refine lv_tableOut (tgt := 162) hx hb dX5_takeToken_64 (tout 0 7 (fun k hk => by match k, hk with | 0, _ => exact c10 | 1, _ => exact c13 | 2, _ => exact c16 | 3, _ => exact c19 | 4, _ => exact c20 | 5, _ => exact c23 | 6, _ => exact c26 | 7, _ => exact c29 | (q + 8), hk => exact absurd hk (by omega)) rfl rfl (by decide)) (by decide) ?_
  refine lv_aload_n hx hb dX5_takeToken_162 rfl (lv_at hl 0 rfl) ?_
  obtain ⟨r32, hr33, hf⟩ := bnd hf
  refine wcallv (D := D) (cI := cI) (cZ := cZ) (cR := cR) (wc := (wd_X5_takeLast cI cZ cR a_t a_t_text a_t_code a_t_waiting t_length t_codes t_waits t_fault t_faultPlace t_at t_place t_sign t_number t_state t_name t_compared t_open t_parentheses)) (w' := (wd_X5_takeLast cI cZ cR a_t a_t_text a_t_code a_t_waiting t_length t_codes t_waits (r32.1) (r32.2.1) t_at t_place t_sign t_number (r32.2.2) t_name t_compared t_open t_parentheses)) [0] hP hD hS hA rfl rfl rfl (rnV (As := []) (ci := 5) (q0 := 0) X [0] hK hP hD rfl rfl rfl rfl (c_X5_takeLast l D cI cZ cR hr33) (cwV 0 hts gX5_takeToken_X5_takeLast rfl rfl rfl (by decide +kernel) ⟨Nat.le_of_ble_eq_true rfl, Nat.le_of_ble_eq_true rfl⟩) rfl hl.1 rfl (Nat.le_of_ble_eq_true rfl) dX5_takeToken_163) (fun H locs hP hD hS => ?_)
  have hP : va_P D vwCl (wd_X5_takeToken cI cZ cR a_t a_t_text a_t_code a_t_waiting t_length t_codes t_waits (r32.1) (r32.2.1) t_at t_place t_sign t_number (r32.2.2) t_name t_compared t_open t_parentheses t_code_r t_waiting_r) H := hP
  have hD : va_D A (wd_X5_takeToken cI cZ cR a_t a_t_text a_t_code a_t_waiting t_length t_codes t_waits (r32.1) (r32.2.1) t_at t_place t_sign t_number (r32.2.2) t_name t_compared t_open t_parentheses t_code_r t_waiting_r) := hD
  cases hf
  exact retv X hK hP hD hS dX5_takeToken_166
set_option maxHeartbeats 4000000 in
set_option maxRecDepth 100000 in
theorem w_X5_takeToken_30 {p : Program} {l : Launch} {e : Env} {s : State} {m : MethodId} {args : Array Value} {below : List Frame} {meth : Method} {c : Code} {D : va_G} {cI cZ cR : ClassId} {A : Nat → Prop} {a_t a_t_text a_t_code a_t_waiting : Nat} {t_length : Int32} {t_at : Int32} {t_place : Int32} {t_sign : Int32} {t_number : Int32} {out : Int32 × Int32 × Int32 × Int32 × Int32 × Int32 × Int32 × Int32 × Int32 × (Nat → Int32) × (Nat → Int32)} (X : cx p s m args meth c cX5_takeToken 1 none RX5 wsX5_takeToken) (hK : va_K D vwCl (ty3 cI cZ cR) s) (hA : ∀ q, s.heap.size ≤ q → A q) : ∀ (t_codes : Int32) (t_compared : Int32) (t_fault : Int32) (t_faultPlace : Int32) (t_name : Int32) (t_open : Int32) (t_parentheses : Int32) (t_state : Int32) (t_waits : Int32) (t_code_r : Nat → Int32) (t_waiting_r : Nat → Int32), F_X5_takeToken_30 t_number t_place t_sign t_codes t_compared t_fault t_faultPlace t_name t_open t_parentheses t_state t_waits t_code_r t_waiting_r = some out → ∀ (H : Heap) (locs : List Loc), va_P D vwCl (wd_X5_takeToken cI cZ cR a_t a_t_text a_t_code a_t_waiting t_length t_codes t_waits t_fault t_faultPlace t_at t_place t_sign t_number t_state t_name t_compared t_open t_parentheses t_code_r t_waiting_r) H → va_D A (wd_X5_takeToken cI cZ cR a_t a_t_text a_t_code a_t_waiting t_length t_codes t_waits t_fault t_faultPlace t_at t_place t_sign t_number t_state t_name t_compared t_open t_parentheses t_code_r t_waiting_r) → va_S A s.heap H locs → ∀ (ls : Array Slot), lv_has ls 1 [(0, .ref a_t)] → W p l e (headSpec wsX5_takeToken ({ frames := 5, cells := 0, slots := 0, locals := 103 } : Room)).room s m args below meth c H locs 0 0 (MQ below (qv D cI cZ cR A (wd_X5_takeToken cI cZ cR a_t a_t_text a_t_code a_t_waiting t_length (out.1) (out.2.2.2.2.2.2.2.2.1) (out.2.2.1) (out.2.2.2.1) t_at t_place t_sign t_number (out.2.2.2.2.2.2.2.1) (out.2.2.2.2.1) (out.2.1) (out.2.2.2.2.2.1) (out.2.2.2.2.2.2.1) (out.2.2.2.2.2.2.2.2.2.1) (out.2.2.2.2.2.2.2.2.2.2))) args s 0 0 A) (F0 m 30 ls []) := by
  obtain ⟨hx, hb, hml, hr, hown, hts, hlocks, hN⟩ := id X
  intro t_codes t_compared t_fault t_faultPlace t_name t_open t_parentheses t_state t_waits t_code_r t_waiting_r hf H locs hP hD hS ls hl
  unfold F_X5_takeToken_30 at hf
  refine lv_aload_n hx hb dX5_takeToken_30 rfl (lv_at hl 0 rfl) ?_
  refine va_get (D := D) (ci := 5) (v := .int t_state) (C := RX5) (T := TX5) (N := 17) hx hb hts in_X5_takeToken_X5 hown hK hP 0 rfl rfl 12 (by decide) (hts (.fieldLink RX5 50 "DivisionHall$Reader" "state" "I") (by decide +kernel)) (fun _ h9 => h9) rfl dX5_takeToken_31 ?_
  refine lv_iconst (v := (4 : Int32)) hx hb dX5_takeToken_34 (by decide) ?_
  refine lv_icmp_ne (tgt := 60) hx hb dX5_takeToken_35 (by decide) (fun c5 => ?_) (fun c5 => ?_)
  · have hf := ineg c5 hf
    exact w_X5_takeToken_60 X hK hA t_codes t_compared t_fault t_faultPlace t_name t_open t_parentheses t_state t_waits t_code_r t_waiting_r hf _ _ hP hD hS _ (lv_sub hl [0] rfl)
  · have hf := ipos c5 hf
    refine lv_aload_n hx hb dX5_takeToken_38 rfl (lv_at hl 0 rfl) ?_
    refine va_get (D := D) (ci := 5) (v := .int t_compared) (C := RX5) (T := TX5) (N := 17) hx hb hts in_X5_takeToken_X5 hown hK hP 0 rfl rfl 14 (by decide) (hts (.fieldLink RX5 40 "DivisionHall$Reader" "compared" "Z") (by decide +kernel)) (fun _ h9 => h9) rfl dX5_takeToken_39 ?_
    refine lv_if_eq (tgt := 60) hx hb dX5_takeToken_42 (by decide) (fun c6 => ?_) (fun c6 => ?_)
    · have hf := ipos c6 hf
      exact w_X5_takeToken_60 X hK hA t_codes t_compared t_fault t_faultPlace t_name t_open t_parentheses t_state t_waits t_code_r t_waiting_r hf _ _ hP hD hS _ (lv_sub hl [0] rfl)
    · have hf := ineg c6 hf
      refine lv_aload_n hx hb dX5_takeToken_45 rfl (lv_at hl 0 rfl) ?_
      refine va_get (D := D) (ci := 5) (v := .int t_sign) (C := RX5) (T := TX5) (N := 17) hx hb hts in_X5_takeToken_X5 hown hK hP 0 rfl rfl 10 (by decide) (hts (.fieldLink RX5 64 "DivisionHall$Reader" "sign" "I") (by decide +kernel)) (fun _ h9 => h9) rfl dX5_takeToken_46 ?_
      obtain ⟨r7, hr8, hf⟩ := bnd hf
      refine wcalli (D := D) (cI := cI) (cZ := cZ) (cR := cR) (wc := (wd_X8_isSum cI cZ cR)) (w' := (wd_X8_isSum cI cZ cR)) [] hP hD hS hA rfl rfl rfl (rnS (As := [.int t_sign]) X [] hK hP hD rfl rfl (c_X8_isSum l D cI cZ cR hr8) ⟨callB_of 1 hts ggX5_takeToken_X8_isSum rfl rfl rfl (hts (.initialized RX8) (by decide +kernel)) (hts (.methodLink RX5 125 yX8_isSum) (by decide +kernel)) (by decide +kernel) ⟨Nat.le_of_ble_eq_true rfl, Nat.le_of_ble_eq_true rfl⟩, hts (.static yX8_isSum) (by decide +kernel)⟩ rfl hl.1 rfl (Nat.le_of_ble_eq_true rfl) dX5_takeToken_49) (fun H locs hP hD hS => ?_)
      have hP : va_P D vwCl (wd_X5_takeToken cI cZ cR a_t a_t_text a_t_code a_t_waiting t_length t_codes t_waits t_fault t_faultPlace t_at t_place t_sign t_number t_state t_name t_compared t_open t_parentheses t_code_r t_waiting_r) H := hP
      have hD : va_D A (wd_X5_takeToken cI cZ cR a_t a_t_text a_t_code a_t_waiting t_length t_codes t_waits t_fault t_faultPlace t_at t_place t_sign t_number t_state t_name t_compared t_open t_parentheses t_code_r t_waiting_r) := hD
      refine lv_if_ne (tgt := 60) hx hb dX5_takeToken_52 (by decide) (fun c9 => ?_) (fun c9 => ?_)
      · have hf := ineg c9 hf
        exact w_X5_takeToken_60 X hK hA t_codes t_compared t_fault t_faultPlace t_name t_open t_parentheses t_state t_waits t_code_r t_waiting_r hf _ _ hP hD hS _ (lv_sub hl [0] rfl)
      · have hf := ipos c9 hf
        refine lv_aload_n hx hb dX5_takeToken_55 rfl (lv_at hl 0 rfl) ?_
        refine lv_iconst (v := (5 : Int32)) hx hb dX5_takeToken_56 (by decide) ?_
        refine va_put (D := D) (ci := 5) (v := .int (5 : Int32)) (ty := .int) (C := RX5) (T := TX5) (N := 17) hx hb hts in_X5_takeToken_X5 tyX5 tyX5_ok nmX5 hown hK hP hD hS 0 rfl rfl 12 (by decide) (hts (.fieldLink RX5 50 "DivisionHall$Reader" "state" "I") (by decide +kernel)) (fun _ h9 => h9) rfl (by decide +kernel) rfl rfl (Nat.le_of_ble_eq_true rfl) dX5_takeToken_57 (fun H locs hP hD hS => ?_)
        have hP : va_P D vwCl (wd_X5_takeToken cI cZ cR a_t a_t_text a_t_code a_t_waiting t_length t_codes t_waits t_fault t_faultPlace t_at t_place t_sign t_number (5 : Int32) t_name t_compared t_open t_parentheses t_code_r t_waiting_r) H := hP
        have hD : va_D A (wd_X5_takeToken cI cZ cR a_t a_t_text a_t_code a_t_waiting t_length t_codes t_waits t_fault t_faultPlace t_at t_place t_sign t_number (5 : Int32) t_name t_compared t_open t_parentheses t_code_r t_waiting_r) := hD
        exact w_X5_takeToken_60 X hK hA t_codes t_compared t_fault t_faultPlace t_name t_open t_parentheses (5 : Int32) t_waits t_code_r t_waiting_r hf _ _ hP hD hS _ (lv_sub hl [0] rfl)
set_option maxHeartbeats 4000000 in
set_option maxRecDepth 100000 in
theorem c_X5_takeToken (l : Launch) (D : va_G) (cI cZ cR : ClassId) {a_t a_t_text a_t_code a_t_waiting : Nat} {t_length : Int32} {t_codes : Int32} {t_waits : Int32} {t_fault : Int32} {t_faultPlace : Int32} {t_at : Int32} {t_place : Int32} {t_sign : Int32} {t_number : Int32} {t_state : Int32} {t_name : Int32} {t_compared : Int32} {t_open : Int32} {t_parentheses : Int32} {t_code_r : Nat → Int32} {t_waiting_r : Nat → Int32} {sz : Nat} {out : Int32 × Int32 × Int32 × Int32 × Int32 × Int32 × Int32 × Int32 × Int32 × (Nat → Int32) × (Nat → Int32)} (hf : F_X5_takeToken t_codes t_compared t_fault t_faultPlace t_name t_number t_open t_parentheses t_place t_sign t_state t_waits t_code_r t_waiting_r = some out) : CV l yX5_takeToken wsX5_takeToken ({ frames := 5, cells := 0, slots := 0, locals := 103 } : Room) D cI cZ cR [.ref a_t] (wd_X5_takeToken cI cZ cR a_t a_t_text a_t_code a_t_waiting t_length t_codes t_waits t_fault t_faultPlace t_at t_place t_sign t_number t_state t_name t_compared t_open t_parentheses t_code_r t_waiting_r) sz (wd_X5_takeToken cI cZ cR a_t a_t_text a_t_code a_t_waiting t_length (out.1) (out.2.2.2.2.2.2.2.2.1) (out.2.2.1) (out.2.2.2.1) t_at t_place t_sign t_number (out.2.2.2.2.2.2.2.1) (out.2.2.2.2.1) (out.2.1) (out.2.2.2.2.2.1) (out.2.2.2.2.2.2.1) (out.2.2.2.2.2.2.2.2.2.1) (out.2.2.2.2.2.2.2.2.2.2)) := by
  refine met_of (Qf := fun A => qv D cI cZ cR A (wd_X5_takeToken cI cZ cR a_t a_t_text a_t_code a_t_waiting t_length (out.1) (out.2.2.2.2.2.2.2.2.1) (out.2.2.1) (out.2.2.2.1) t_at t_place t_sign t_number (out.2.2.2.2.2.2.2.1) (out.2.2.2.2.1) (out.2.1) (out.2.2.2.2.2.1) (out.2.2.2.2.2.2.1) (out.2.2.2.2.2.2.2.2.2.1) (out.2.2.2.2.2.2.2.2.2.2))) RX5 (by decide +kernel) rfl rfl (Nat.le_of_ble_eq_true rfl) ?_
  intro p e s m below meth c A X hK hA hP hD hS ls hl
  have hl : lv_has ls 1 [(0, .ref a_t)] := hl
  obtain ⟨hx, hb, hml, hr, hown, hts, hlocks, hN⟩ := id X
  unfold F_X5_takeToken at hf
  refine lv_aload_n hx hb dX5_takeToken_0 rfl (lv_at hl 0 rfl) ?_
  refine va_get (D := D) (ci := 5) (v := .int t_state) (C := RX5) (T := TX5) (N := 17) hx hb hts in_X5_takeToken_X5 hown hK hP 0 rfl rfl 12 (by decide) (hts (.fieldLink RX5 50 "DivisionHall$Reader" "state" "I") (by decide +kernel)) (fun _ h9 => h9) rfl dX5_takeToken_1 ?_
  refine lv_iconst (v := (3 : Int32)) hx hb dX5_takeToken_4 (by decide) ?_
  refine lv_icmp_ne (tgt := 30) hx hb dX5_takeToken_5 (by decide) (fun c1 => ?_) (fun c1 => ?_)
  · have hf := ineg c1 hf
    exact w_X5_takeToken_30 X hK hA t_codes t_compared t_fault t_faultPlace t_name t_open t_parentheses t_state t_waits t_code_r t_waiting_r hf _ _ hP hD hS _ (lv_sub hl [0] rfl)
  · have hf := ipos c1 hf
    refine lv_aload_n hx hb dX5_takeToken_8 rfl (lv_at hl 0 rfl) ?_
    refine va_get (D := D) (ci := 5) (v := .int t_sign) (C := RX5) (T := TX5) (N := 17) hx hb hts in_X5_takeToken_X5 hown hK hP 0 rfl rfl 10 (by decide) (hts (.fieldLink RX5 64 "DivisionHall$Reader" "sign" "I") (by decide +kernel)) (fun _ h9 => h9) rfl dX5_takeToken_9 ?_
    refine lv_iconst (v := (5 : Int32)) hx hb dX5_takeToken_12 (by decide) ?_
    refine lv_icmp_eq (tgt := 30) hx hb dX5_takeToken_13 (by decide) (fun c2 => ?_) (fun c2 => ?_)
    · have hf := ipos c2 hf
      exact w_X5_takeToken_30 X hK hA t_codes t_compared t_fault t_faultPlace t_name t_open t_parentheses t_state t_waits t_code_r t_waiting_r hf _ _ hP hD hS _ (lv_sub hl [0] rfl)
    · have hf := ineg c2 hf
      refine lv_aload_n hx hb dX5_takeToken_16 rfl (lv_at hl 0 rfl) ?_
      refine lv_aload_n hx hb dX5_takeToken_17 rfl (lv_at hl 0 rfl) ?_
      refine va_get (D := D) (ci := 5) (v := .int t_name) (C := RX5) (T := TX5) (N := 17) hx hb hts in_X5_takeToken_X5 hown hK hP 0 rfl rfl 13 (by decide) (hts (.fieldLink RX5 118 "DivisionHall$Reader" "name" "I") (by decide +kernel)) (fun _ h9 => h9) rfl dX5_takeToken_18 ?_
      refine lv_iconst (v := (0 : Int32)) hx hb dX5_takeToken_21 (by decide) ?_
      obtain ⟨r3, hr4, hf⟩ := bnd hf
      refine wcallv (D := D) (cI := cI) (cZ := cZ) (cR := cR) (wc := (wd_X5_emit cI cZ cR a_t a_t_text a_t_code a_t_waiting t_length t_codes t_waits t_fault t_faultPlace t_at t_place t_sign t_number t_state t_name t_compared t_open t_parentheses t_code_r)) (w' := (wd_X5_emit cI cZ cR a_t a_t_text a_t_code a_t_waiting t_length (r3.1) t_waits t_fault t_faultPlace t_at t_place t_sign t_number t_state t_name t_compared t_open t_parentheses (r3.2))) [0, 1] hP hD hS hA rfl rfl rfl (rnV (As := [.int t_name, .int (0 : Int32)]) (ci := 5) (q0 := 0) X [0, 1] hK hP hD rfl rfl rfl rfl (c_X5_emit l D cI cZ cR hr4) (cwV 2 hts gX5_takeToken_X5_emit rfl rfl rfl (by decide +kernel) ⟨Nat.le_of_ble_eq_true rfl, Nat.le_of_ble_eq_true rfl⟩) rfl hl.1 rfl (Nat.le_of_ble_eq_true rfl) dX5_takeToken_22) (fun H locs hP hD hS => ?_)
      have hP : va_P D vwCl (wd_X5_takeToken cI cZ cR a_t a_t_text a_t_code a_t_waiting t_length (r3.1) t_waits t_fault t_faultPlace t_at t_place t_sign t_number t_state t_name t_compared t_open t_parentheses (r3.2) t_waiting_r) H := hP
      have hD : va_D A (wd_X5_takeToken cI cZ cR a_t a_t_text a_t_code a_t_waiting t_length (r3.1) t_waits t_fault t_faultPlace t_at t_place t_sign t_number t_state t_name t_compared t_open t_parentheses (r3.2) t_waiting_r) := hD
      refine lv_aload_n hx hb dX5_takeToken_25 rfl (lv_at hl 0 rfl) ?_
      refine lv_iconst (v := (4 : Int32)) hx hb dX5_takeToken_26 (by decide) ?_
      refine va_put (D := D) (ci := 5) (v := .int (4 : Int32)) (ty := .int) (C := RX5) (T := TX5) (N := 17) hx hb hts in_X5_takeToken_X5 tyX5 tyX5_ok nmX5 hown hK hP hD hS 0 rfl rfl 12 (by decide) (hts (.fieldLink RX5 50 "DivisionHall$Reader" "state" "I") (by decide +kernel)) (fun _ h9 => h9) rfl (by decide +kernel) rfl rfl (Nat.le_of_ble_eq_true rfl) dX5_takeToken_27 (fun H locs hP hD hS => ?_)
      have hP : va_P D vwCl (wd_X5_takeToken cI cZ cR a_t a_t_text a_t_code a_t_waiting t_length (r3.1) t_waits t_fault t_faultPlace t_at t_place t_sign t_number (4 : Int32) t_name t_compared t_open t_parentheses (r3.2) t_waiting_r) H := hP
      have hD : va_D A (wd_X5_takeToken cI cZ cR a_t a_t_text a_t_code a_t_waiting t_length (r3.1) t_waits t_fault t_faultPlace t_at t_place t_sign t_number (4 : Int32) t_name t_compared t_open t_parentheses (r3.2) t_waiting_r) := hD
      exact w_X5_takeToken_30 X hK hA (r3.1) t_compared t_fault t_faultPlace t_name t_open t_parentheses (4 : Int32) t_waits (r3.2) t_waiting_r hf _ _ hP hD hS _ (lv_sub hl [0] rfl)
