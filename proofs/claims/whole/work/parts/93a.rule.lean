abbrev wd_X5_readWord (cI cZ cR : ClassId) (a_t a_t_text a_t_code a_t_waiting : Nat) (t_length t_codes t_waits t_fault t_faultPlace t_at t_place t_sign t_number t_state t_name t_compared t_open t_parentheses : Int32) (t_text_r : Nat → Int32) : va_W := [(a_t, oB 5 [.ref a_t_text, .ref a_t_code, .ref a_t_waiting, .int t_length, .int t_codes, .int t_waits, .int t_fault, .int t_faultPlace, .int t_at, .int t_place, .int t_sign, .int t_number, .int t_state, .int t_name, .int t_compared, .int t_open, .int t_parentheses]), (a_t_text, aI cI 400 t_text_r)]
set_option maxRecDepth 100000 in
theorem in_X5_readWord_X5 : ∀ w ∈ wsX50, w ∈ wsX5_readWord := by decide +kernel
set_option maxHeartbeats 4000000 in
set_option maxRecDepth 100000 in
theorem w_X5_readWord_49 {p : Program} {l : Launch} {e : Env} {s : State} {m : MethodId} {args : Array Value} {below : List Frame} {meth : Method} {c : Code} {D : va_G} {cI cZ cR : ClassId} {A : Nat → Prop} {adK adV : Nat → Nat} {a_t a_t_text a_t_code a_t_waiting : Nat} {t_length : Int32} {t_codes : Int32} {t_waits : Int32} {t_fault : Int32} {t_faultPlace : Int32} {t_place : Int32} {t_number : Int32} {t_state : Int32} {t_name : Int32} {t_compared : Int32} {t_open : Int32} {t_parentheses : Int32} {t_text_r : Nat → Int32} {out : Int32 × Int32} (X : cx p s m args meth c cX5_readWord 1 none RX5 wsX5_readWord) (hK : va_K D vwCl (ty3 cI cZ cR) s) (hA : ∀ q, s.heap.size ≤ q → A q) (hW : SW adK adV A s s.heap) : ∀ (t_at : Int32) (t_sign : Int32), F_X5_readWord_49 t_length t_place t_text_r t_at t_sign = some out → ∀ (H : Heap) (locs : List Loc), va_P D vwCl (wd_X5_readWord cI cZ cR a_t a_t_text a_t_code a_t_waiting t_length t_codes t_waits t_fault t_faultPlace t_at t_place t_sign t_number t_state t_name t_compared t_open t_parentheses t_text_r) H → va_D A (wd_X5_readWord cI cZ cR a_t a_t_text a_t_code a_t_waiting t_length t_codes t_waits t_fault t_faultPlace t_at t_place t_sign t_number t_state t_name t_compared t_open t_parentheses t_text_r) → va_S A s.heap H locs → ∀ (ls : Array Slot), lv_has ls 1 [(0, .ref a_t)] → W p l e (headSpec wsX5_readWord ({ frames := 5, cells := 0, slots := 0, locals := 107 } : Room)).room s m args below meth c H locs 0 0 (MQ below (qv D cI cZ cR A (wd_X5_readWord cI cZ cR a_t a_t_text a_t_code a_t_waiting t_length t_codes t_waits t_fault t_faultPlace (out.1) t_place (out.2) t_number t_state t_name t_compared t_open t_parentheses t_text_r)) args s 0 0 A) (F0 m 49 ls []) := by
  obtain ⟨hx, hb, hml, hr, hown, hts, hlocks, hN⟩ := id X
  intro t_at t_sign hf H locs hP hD hS ls hl
  unfold F_X5_readWord_49 at hf
  refine lv_aload_n hx hb dX5_readWord_49 rfl (lv_at hl 0 rfl) ?_
  refine lv_aload_n hx hb dX5_readWord_50 rfl (lv_at hl 0 rfl) ?_
  refine va_ldcS hx hb hown (hW.2.2.2 0 (by decide)) dX5_readWord_51 ?_
  obtain ⟨r7, hr8, hf⟩ := bnd hf
  refine wcalliA (D := D) (cI := cI) (cZ := cZ) (cR := cR) (wc := (wd_X5_isWord cI cZ cR a_t a_t_text a_t_code a_t_waiting t_length t_codes t_waits t_fault t_faultPlace t_at t_place t_sign t_number t_state t_name t_compared t_open t_parentheses t_text_r)) (w' := (wd_X5_isWord cI cZ cR a_t a_t_text a_t_code a_t_waiting t_length t_codes t_waits t_fault t_faultPlace t_at t_place t_sign t_number t_state t_name t_compared t_open t_parentheses t_text_r)) hP hD hS hA rfl (rnVSA (As := [.ref (adK 0)]) (ci := 5) (q0 := 0) X hK hP hD hW hS hA rfl rfl (c_X5_isWord l adK adV D cI cZ cR hr8) (cwV 1 hts gX5_readWord_X5_isWord rfl rfl rfl (by decide +kernel) ⟨Nat.le_of_ble_eq_true rfl, Nat.le_of_ble_eq_true rfl⟩) rfl hl.1 rfl (Nat.le_of_ble_eq_true rfl) dX5_readWord_53) (fun H locs hP hD hS => ?_)
  have hP : va_P D vwCl (wd_X5_readWord cI cZ cR a_t a_t_text a_t_code a_t_waiting t_length t_codes t_waits t_fault t_faultPlace t_at t_place t_sign t_number t_state t_name t_compared t_open t_parentheses t_text_r) H := hP
  have hD : va_D A (wd_X5_readWord cI cZ cR a_t a_t_text a_t_code a_t_waiting t_length t_codes t_waits t_fault t_faultPlace t_at t_place t_sign t_number t_state t_name t_compared t_open t_parentheses t_text_r) := hD
  refine lv_if_eq (tgt := 64) hx hb dX5_readWord_56 (by decide) (fun c9 => ?_) (fun c9 => ?_)
  · have hf := ipos c9 hf
    refine lv_aload_n hx hb dX5_readWord_64 rfl (lv_at hl 0 rfl) ?_
    refine va_ldcS hx hb hown (hW.2.2.2 1 (by decide)) dX5_readWord_65 ?_
    obtain ⟨r10, hr11, hf⟩ := bnd hf
    refine wcalliA (D := D) (cI := cI) (cZ := cZ) (cR := cR) (wc := (wd_X5_isWord cI cZ cR a_t a_t_text a_t_code a_t_waiting t_length t_codes t_waits t_fault t_faultPlace t_at t_place t_sign t_number t_state t_name t_compared t_open t_parentheses t_text_r)) (w' := (wd_X5_isWord cI cZ cR a_t a_t_text a_t_code a_t_waiting t_length t_codes t_waits t_fault t_faultPlace t_at t_place t_sign t_number t_state t_name t_compared t_open t_parentheses t_text_r)) hP hD hS hA rfl (rnVSA (As := [.ref (adK 1)]) (ci := 5) (q0 := 0) X hK hP hD hW hS hA rfl rfl (c_X5_isWord l adK adV D cI cZ cR hr11) (cwV 1 hts gX5_readWord_X5_isWord rfl rfl rfl (by decide +kernel) ⟨Nat.le_of_ble_eq_true rfl, Nat.le_of_ble_eq_true rfl⟩) rfl hl.1 rfl (Nat.le_of_ble_eq_true rfl) dX5_readWord_67) (fun H locs hP hD hS => ?_)
    have hP : va_P D vwCl (wd_X5_readWord cI cZ cR a_t a_t_text a_t_code a_t_waiting t_length t_codes t_waits t_fault t_faultPlace t_at t_place t_sign t_number t_state t_name t_compared t_open t_parentheses t_text_r) H := hP
    have hD : va_D A (wd_X5_readWord cI cZ cR a_t a_t_text a_t_code a_t_waiting t_length t_codes t_waits t_fault t_faultPlace t_at t_place t_sign t_number t_state t_name t_compared t_open t_parentheses t_text_r) := hD
    refine lv_if_eq (tgt := 78) hx hb dX5_readWord_70 (by decide) (fun c12 => ?_) (fun c12 => ?_)
    · have hf := ipos c12 hf
      refine lv_aload_n hx hb dX5_readWord_78 rfl (lv_at hl 0 rfl) ?_
      refine va_ldcS hx hb hown (hW.2.2.2 2 (by decide)) dX5_readWord_79 ?_
      obtain ⟨r13, hr14, hf⟩ := bnd hf
      refine wcalliA (D := D) (cI := cI) (cZ := cZ) (cR := cR) (wc := (wd_X5_isWord cI cZ cR a_t a_t_text a_t_code a_t_waiting t_length t_codes t_waits t_fault t_faultPlace t_at t_place t_sign t_number t_state t_name t_compared t_open t_parentheses t_text_r)) (w' := (wd_X5_isWord cI cZ cR a_t a_t_text a_t_code a_t_waiting t_length t_codes t_waits t_fault t_faultPlace t_at t_place t_sign t_number t_state t_name t_compared t_open t_parentheses t_text_r)) hP hD hS hA rfl (rnVSA (As := [.ref (adK 2)]) (ci := 5) (q0 := 0) X hK hP hD hW hS hA rfl rfl (c_X5_isWord l adK adV D cI cZ cR hr14) (cwV 1 hts gX5_readWord_X5_isWord rfl rfl rfl (by decide +kernel) ⟨Nat.le_of_ble_eq_true rfl, Nat.le_of_ble_eq_true rfl⟩) rfl hl.1 rfl (Nat.le_of_ble_eq_true rfl) dX5_readWord_81) (fun H locs hP hD hS => ?_)
      have hP : va_P D vwCl (wd_X5_readWord cI cZ cR a_t a_t_text a_t_code a_t_waiting t_length t_codes t_waits t_fault t_faultPlace t_at t_place t_sign t_number t_state t_name t_compared t_open t_parentheses t_text_r) H := hP
      have hD : va_D A (wd_X5_readWord cI cZ cR a_t a_t_text a_t_code a_t_waiting t_length t_codes t_waits t_fault t_faultPlace t_at t_place t_sign t_number t_state t_name t_compared t_open t_parentheses t_text_r) := hD
      refine lv_if_eq (tgt := 92) hx hb dX5_readWord_84 (by decide) (fun c15 => ?_) (fun c15 => ?_)
      · have hf := ipos c15 hf
        refine lv_aload_n hx hb dX5_readWord_92 rfl (lv_at hl 0 rfl) ?_
        refine va_ldcS hx hb hown (hW.2.2.2 3 (by decide)) dX5_readWord_93 ?_
        obtain ⟨r16, hr17, hf⟩ := bnd hf
        refine wcalliA (D := D) (cI := cI) (cZ := cZ) (cR := cR) (wc := (wd_X5_isWord cI cZ cR a_t a_t_text a_t_code a_t_waiting t_length t_codes t_waits t_fault t_faultPlace t_at t_place t_sign t_number t_state t_name t_compared t_open t_parentheses t_text_r)) (w' := (wd_X5_isWord cI cZ cR a_t a_t_text a_t_code a_t_waiting t_length t_codes t_waits t_fault t_faultPlace t_at t_place t_sign t_number t_state t_name t_compared t_open t_parentheses t_text_r)) hP hD hS hA rfl (rnVSA (As := [.ref (adK 3)]) (ci := 5) (q0 := 0) X hK hP hD hW hS hA rfl rfl (c_X5_isWord l adK adV D cI cZ cR hr17) (cwV 1 hts gX5_readWord_X5_isWord rfl rfl rfl (by decide +kernel) ⟨Nat.le_of_ble_eq_true rfl, Nat.le_of_ble_eq_true rfl⟩) rfl hl.1 rfl (Nat.le_of_ble_eq_true rfl) dX5_readWord_95) (fun H locs hP hD hS => ?_)
        have hP : va_P D vwCl (wd_X5_readWord cI cZ cR a_t a_t_text a_t_code a_t_waiting t_length t_codes t_waits t_fault t_faultPlace t_at t_place t_sign t_number t_state t_name t_compared t_open t_parentheses t_text_r) H := hP
        have hD : va_D A (wd_X5_readWord cI cZ cR a_t a_t_text a_t_code a_t_waiting t_length t_codes t_waits t_fault t_faultPlace t_at t_place t_sign t_number t_state t_name t_compared t_open t_parentheses t_text_r) := hD
        refine lv_if_eq (tgt := 106) hx hb dX5_readWord_98 (by decide) (fun c18 => ?_) (fun c18 => ?_)
        · have hf := ipos c18 hf
          refine lv_aload_n hx hb dX5_readWord_106 rfl (lv_at hl 0 rfl) ?_
          refine va_ldcS hx hb hown (hW.2.2.2 4 (by decide)) dX5_readWord_107 ?_
          obtain ⟨r19, hr20, hf⟩ := bnd hf
          refine wcalliA (D := D) (cI := cI) (cZ := cZ) (cR := cR) (wc := (wd_X5_isWord cI cZ cR a_t a_t_text a_t_code a_t_waiting t_length t_codes t_waits t_fault t_faultPlace t_at t_place t_sign t_number t_state t_name t_compared t_open t_parentheses t_text_r)) (w' := (wd_X5_isWord cI cZ cR a_t a_t_text a_t_code a_t_waiting t_length t_codes t_waits t_fault t_faultPlace t_at t_place t_sign t_number t_state t_name t_compared t_open t_parentheses t_text_r)) hP hD hS hA rfl (rnVSA (As := [.ref (adK 4)]) (ci := 5) (q0 := 0) X hK hP hD hW hS hA rfl rfl (c_X5_isWord l adK adV D cI cZ cR hr20) (cwV 1 hts gX5_readWord_X5_isWord rfl rfl rfl (by decide +kernel) ⟨Nat.le_of_ble_eq_true rfl, Nat.le_of_ble_eq_true rfl⟩) rfl hl.1 rfl (Nat.le_of_ble_eq_true rfl) dX5_readWord_109) (fun H locs hP hD hS => ?_)
          have hP : va_P D vwCl (wd_X5_readWord cI cZ cR a_t a_t_text a_t_code a_t_waiting t_length t_codes t_waits t_fault t_faultPlace t_at t_place t_sign t_number t_state t_name t_compared t_open t_parentheses t_text_r) H := hP
          have hD : va_D A (wd_X5_readWord cI cZ cR a_t a_t_text a_t_code a_t_waiting t_length t_codes t_waits t_fault t_faultPlace t_at t_place t_sign t_number t_state t_name t_compared t_open t_parentheses t_text_r) := hD
          refine lv_if_eq (tgt := 119) hx hb dX5_readWord_112 (by decide) (fun c21 => ?_) (fun c21 => ?_)
          · have hf := ipos c21 hf
            refine lv_aload_n hx hb dX5_readWord_119 rfl (lv_at hl 0 rfl) ?_
            refine va_ldcS hx hb hown (hW.2.2.2 5 (by decide)) dX5_readWord_120 ?_
            obtain ⟨r22, hr23, hf⟩ := bnd hf
            refine wcalliA (D := D) (cI := cI) (cZ := cZ) (cR := cR) (wc := (wd_X5_isWord cI cZ cR a_t a_t_text a_t_code a_t_waiting t_length t_codes t_waits t_fault t_faultPlace t_at t_place t_sign t_number t_state t_name t_compared t_open t_parentheses t_text_r)) (w' := (wd_X5_isWord cI cZ cR a_t a_t_text a_t_code a_t_waiting t_length t_codes t_waits t_fault t_faultPlace t_at t_place t_sign t_number t_state t_name t_compared t_open t_parentheses t_text_r)) hP hD hS hA rfl (rnVSA (As := [.ref (adK 5)]) (ci := 5) (q0 := 0) X hK hP hD hW hS hA rfl rfl (c_X5_isWord l adK adV D cI cZ cR hr23) (cwV 1 hts gX5_readWord_X5_isWord rfl rfl rfl (by decide +kernel) ⟨Nat.le_of_ble_eq_true rfl, Nat.le_of_ble_eq_true rfl⟩) rfl hl.1 rfl (Nat.le_of_ble_eq_true rfl) dX5_readWord_122) (fun H locs hP hD hS => ?_)
            have hP : va_P D vwCl (wd_X5_readWord cI cZ cR a_t a_t_text a_t_code a_t_waiting t_length t_codes t_waits t_fault t_faultPlace t_at t_place t_sign t_number t_state t_name t_compared t_open t_parentheses t_text_r) H := hP
            have hD : va_D A (wd_X5_readWord cI cZ cR a_t a_t_text a_t_code a_t_waiting t_length t_codes t_waits t_fault t_faultPlace t_at t_place t_sign t_number t_state t_name t_compared t_open t_parentheses t_text_r) := hD
            refine lv_if_eq (tgt := 133) hx hb dX5_readWord_125 (by decide) (fun c24 => ?_) (fun c24 => ?_)
            · have hf := ipos c24 hf
              refine lv_aload_n hx hb dX5_readWord_133 rfl (lv_at hl 0 rfl) ?_
              refine va_ldcS hx hb hown (hW.2.2.2 6 (by decide)) dX5_readWord_134 ?_
              obtain ⟨r25, hr26, hf⟩ := bnd hf
              refine wcalliA (D := D) (cI := cI) (cZ := cZ) (cR := cR) (wc := (wd_X5_isWord cI cZ cR a_t a_t_text a_t_code a_t_waiting t_length t_codes t_waits t_fault t_faultPlace t_at t_place t_sign t_number t_state t_name t_compared t_open t_parentheses t_text_r)) (w' := (wd_X5_isWord cI cZ cR a_t a_t_text a_t_code a_t_waiting t_length t_codes t_waits t_fault t_faultPlace t_at t_place t_sign t_number t_state t_name t_compared t_open t_parentheses t_text_r)) hP hD hS hA rfl (rnVSA (As := [.ref (adK 6)]) (ci := 5) (q0 := 0) X hK hP hD hW hS hA rfl rfl (c_X5_isWord l adK adV D cI cZ cR hr26) (cwV 1 hts gX5_readWord_X5_isWord rfl rfl rfl (by decide +kernel) ⟨Nat.le_of_ble_eq_true rfl, Nat.le_of_ble_eq_true rfl⟩) rfl hl.1 rfl (Nat.le_of_ble_eq_true rfl) dX5_readWord_136) (fun H locs hP hD hS => ?_)
              have hP : va_P D vwCl (wd_X5_readWord cI cZ cR a_t a_t_text a_t_code a_t_waiting t_length t_codes t_waits t_fault t_faultPlace t_at t_place t_sign t_number t_state t_name t_compared t_open t_parentheses t_text_r) H := hP
              have hD : va_D A (wd_X5_readWord cI cZ cR a_t a_t_text a_t_code a_t_waiting t_length t_codes t_waits t_fault t_faultPlace t_at t_place t_sign t_number t_state t_name t_compared t_open t_parentheses t_text_r) := hD
              refine lv_if_eq (tgt := 147) hx hb dX5_readWord_139 (by decide) (fun c27 => ?_) (fun c27 => ?_)
              · have hf := ipos c27 hf
                refine lv_aload_n hx hb dX5_readWord_147 rfl (lv_at hl 0 rfl) ?_
                refine va_ldcS hx hb hown (hW.2.2.2 7 (by decide)) dX5_readWord_148 ?_
                obtain ⟨r28, hr29, hf⟩ := bnd hf
                refine wcalliA (D := D) (cI := cI) (cZ := cZ) (cR := cR) (wc := (wd_X5_isWord cI cZ cR a_t a_t_text a_t_code a_t_waiting t_length t_codes t_waits t_fault t_faultPlace t_at t_place t_sign t_number t_state t_name t_compared t_open t_parentheses t_text_r)) (w' := (wd_X5_isWord cI cZ cR a_t a_t_text a_t_code a_t_waiting t_length t_codes t_waits t_fault t_faultPlace t_at t_place t_sign t_number t_state t_name t_compared t_open t_parentheses t_text_r)) hP hD hS hA rfl (rnVSA (As := [.ref (adK 7)]) (ci := 5) (q0 := 0) X hK hP hD hW hS hA rfl rfl (c_X5_isWord l adK adV D cI cZ cR hr29) (cwV 1 hts gX5_readWord_X5_isWord rfl rfl rfl (by decide +kernel) ⟨Nat.le_of_ble_eq_true rfl, Nat.le_of_ble_eq_true rfl⟩) rfl hl.1 rfl (Nat.le_of_ble_eq_true rfl) dX5_readWord_150) (fun H locs hP hD hS => ?_)
                have hP : va_P D vwCl (wd_X5_readWord cI cZ cR a_t a_t_text a_t_code a_t_waiting t_length t_codes t_waits t_fault t_faultPlace t_at t_place t_sign t_number t_state t_name t_compared t_open t_parentheses t_text_r) H := hP
                have hD : va_D A (wd_X5_readWord cI cZ cR a_t a_t_text a_t_code a_t_waiting t_length t_codes t_waits t_fault t_faultPlace t_at t_place t_sign t_number t_state t_name t_compared t_open t_parentheses t_text_r) := hD
                refine lv_if_eq (tgt := 161) hx hb dX5_readWord_153 (by decide) (fun c30 => ?_) (fun c30 => ?_)
                · have hf := ipos c30 hf
                  refine lv_aload_n hx hb dX5_readWord_161 rfl (lv_at hl 0 rfl) ?_
                  refine va_ldcS hx hb hown (hW.2.2.2 8 (by decide)) dX5_readWord_162 ?_
                  obtain ⟨r31, hr32, hf⟩ := bnd hf
                  refine wcalliA (D := D) (cI := cI) (cZ := cZ) (cR := cR) (wc := (wd_X5_isWord cI cZ cR a_t a_t_text a_t_code a_t_waiting t_length t_codes t_waits t_fault t_faultPlace t_at t_place t_sign t_number t_state t_name t_compared t_open t_parentheses t_text_r)) (w' := (wd_X5_isWord cI cZ cR a_t a_t_text a_t_code a_t_waiting t_length t_codes t_waits t_fault t_faultPlace t_at t_place t_sign t_number t_state t_name t_compared t_open t_parentheses t_text_r)) hP hD hS hA rfl (rnVSA (As := [.ref (adK 8)]) (ci := 5) (q0 := 0) X hK hP hD hW hS hA rfl rfl (c_X5_isWord l adK adV D cI cZ cR hr32) (cwV 1 hts gX5_readWord_X5_isWord rfl rfl rfl (by decide +kernel) ⟨Nat.le_of_ble_eq_true rfl, Nat.le_of_ble_eq_true rfl⟩) rfl hl.1 rfl (Nat.le_of_ble_eq_true rfl) dX5_readWord_164) (fun H locs hP hD hS => ?_)
                  have hP : va_P D vwCl (wd_X5_readWord cI cZ cR a_t a_t_text a_t_code a_t_waiting t_length t_codes t_waits t_fault t_faultPlace t_at t_place t_sign t_number t_state t_name t_compared t_open t_parentheses t_text_r) H := hP
                  have hD : va_D A (wd_X5_readWord cI cZ cR a_t a_t_text a_t_code a_t_waiting t_length t_codes t_waits t_fault t_faultPlace t_at t_place t_sign t_number t_state t_name t_compared t_open t_parentheses t_text_r) := hD
                  refine lv_if_eq (tgt := 175) hx hb dX5_readWord_167 (by decide) (fun c33 => ?_) (fun c33 => ?_)
                  · have hf := ipos c33 hf
                    refine lv_iconst (v := (1 : Int32)) hx hb dX5_readWord_175 (by decide) ?_
                    refine va_put (D := D) (ci := 5) (v := .int (1 : Int32)) (ty := .int) (C := RX5) (T := TX5) (N := 17) hx hb hts in_X5_readWord_X5 tyX5 tyX5_ok nmX5 hown hK hP hD hS 0 rfl rfl 10 (by decide) (hts (.fieldLink RX5 64 "DivisionHall$Reader" "sign" "I") (by decide +kernel)) (fun _ h9 => h9) rfl (by decide +kernel) rfl rfl (Nat.le_of_ble_eq_true rfl) dX5_readWord_176 (fun H locs hP hD hS => ?_)
                    have hP : va_P D vwCl (wd_X5_readWord cI cZ cR a_t a_t_text a_t_code a_t_waiting t_length t_codes t_waits t_fault t_faultPlace t_at t_place (1 : Int32) t_number t_state t_name t_compared t_open t_parentheses t_text_r) H := hP
                    have hD : va_D A (wd_X5_readWord cI cZ cR a_t a_t_text a_t_code a_t_waiting t_length t_codes t_waits t_fault t_faultPlace t_at t_place (1 : Int32) t_number t_state t_name t_compared t_open t_parentheses t_text_r) := hD
                    cases hf
                    exact retv X hK hP hD hS dX5_readWord_179
                  · have hf := ineg c33 hf
                    refine lv_bipush (v := (10 : Int32)) hx hb dX5_readWord_170 (by decide) ?_
                    refine lv_goto (tgt := 176) hx hb dX5_readWord_172 (by decide) ?_
                    refine va_put (D := D) (ci := 5) (v := .int (10 : Int32)) (ty := .int) (C := RX5) (T := TX5) (N := 17) hx hb hts in_X5_readWord_X5 tyX5 tyX5_ok nmX5 hown hK hP hD hS 0 rfl rfl 10 (by decide) (hts (.fieldLink RX5 64 "DivisionHall$Reader" "sign" "I") (by decide +kernel)) (fun _ h9 => h9) rfl (by decide +kernel) rfl rfl (Nat.le_of_ble_eq_true rfl) dX5_readWord_176 (fun H locs hP hD hS => ?_)
                    have hP : va_P D vwCl (wd_X5_readWord cI cZ cR a_t a_t_text a_t_code a_t_waiting t_length t_codes t_waits t_fault t_faultPlace t_at t_place (10 : Int32) t_number t_state t_name t_compared t_open t_parentheses t_text_r) H := hP
                    have hD : va_D A (wd_X5_readWord cI cZ cR a_t a_t_text a_t_code a_t_waiting t_length t_codes t_waits t_fault t_faultPlace t_at t_place (10 : Int32) t_number t_state t_name t_compared t_open t_parentheses t_text_r) := hD
                    cases hf
                    exact retv X hK hP hD hS dX5_readWord_179
                · have hf := ineg c30 hf
                  refine lv_bipush (v := (9 : Int32)) hx hb dX5_readWord_156 (by decide) ?_
                  refine lv_goto (tgt := 176) hx hb dX5_readWord_158 (by decide) ?_
                  refine va_put (D := D) (ci := 5) (v := .int (9 : Int32)) (ty := .int) (C := RX5) (T := TX5) (N := 17) hx hb hts in_X5_readWord_X5 tyX5 tyX5_ok nmX5 hown hK hP hD hS 0 rfl rfl 10 (by decide) (hts (.fieldLink RX5 64 "DivisionHall$Reader" "sign" "I") (by decide +kernel)) (fun _ h9 => h9) rfl (by decide +kernel) rfl rfl (Nat.le_of_ble_eq_true rfl) dX5_readWord_176 (fun H locs hP hD hS => ?_)
                  have hP : va_P D vwCl (wd_X5_readWord cI cZ cR a_t a_t_text a_t_code a_t_waiting t_length t_codes t_waits t_fault t_faultPlace t_at t_place (9 : Int32) t_number t_state t_name t_compared t_open t_parentheses t_text_r) H := hP
                  have hD : va_D A (wd_X5_readWord cI cZ cR a_t a_t_text a_t_code a_t_waiting t_length t_codes t_waits t_fault t_faultPlace t_at t_place (9 : Int32) t_number t_state t_name t_compared t_open t_parentheses t_text_r) := hD
                  cases hf
                  exact retv X hK hP hD hS dX5_readWord_179
              · have hf := ineg c27 hf
                refine lv_bipush (v := (8 : Int32)) hx hb dX5_readWord_142 (by decide) ?_
                refine lv_goto (tgt := 176) hx hb dX5_readWord_144 (by decide) ?_
                refine va_put (D := D) (ci := 5) (v := .int (8 : Int32)) (ty := .int) (C := RX5) (T := TX5) (N := 17) hx hb hts in_X5_readWord_X5 tyX5 tyX5_ok nmX5 hown hK hP hD hS 0 rfl rfl 10 (by decide) (hts (.fieldLink RX5 64 "DivisionHall$Reader" "sign" "I") (by decide +kernel)) (fun _ h9 => h9) rfl (by decide +kernel) rfl rfl (Nat.le_of_ble_eq_true rfl) dX5_readWord_176 (fun H locs hP hD hS => ?_)
                have hP : va_P D vwCl (wd_X5_readWord cI cZ cR a_t a_t_text a_t_code a_t_waiting t_length t_codes t_waits t_fault t_faultPlace t_at t_place (8 : Int32) t_number t_state t_name t_compared t_open t_parentheses t_text_r) H := hP
                have hD : va_D A (wd_X5_readWord cI cZ cR a_t a_t_text a_t_code a_t_waiting t_length t_codes t_waits t_fault t_faultPlace t_at t_place (8 : Int32) t_number t_state t_name t_compared t_open t_parentheses t_text_r) := hD
                cases hf
                exact retv X hK hP hD hS dX5_readWord_179
            · have hf := ineg c24 hf
              refine lv_bipush (v := (7 : Int32)) hx hb dX5_readWord_128 (by decide) ?_
              refine lv_goto (tgt := 176) hx hb dX5_readWord_130 (by decide) ?_
              refine va_put (D := D) (ci := 5) (v := .int (7 : Int32)) (ty := .int) (C := RX5) (T := TX5) (N := 17) hx hb hts in_X5_readWord_X5 tyX5 tyX5_ok nmX5 hown hK hP hD hS 0 rfl rfl 10 (by decide) (hts (.fieldLink RX5 64 "DivisionHall$Reader" "sign" "I") (by decide +kernel)) (fun _ h9 => h9) rfl (by decide +kernel) rfl rfl (Nat.le_of_ble_eq_true rfl) dX5_readWord_176 (fun H locs hP hD hS => ?_)
              have hP : va_P D vwCl (wd_X5_readWord cI cZ cR a_t a_t_text a_t_code a_t_waiting t_length t_codes t_waits t_fault t_faultPlace t_at t_place (7 : Int32) t_number t_state t_name t_compared t_open t_parentheses t_text_r) H := hP
              have hD : va_D A (wd_X5_readWord cI cZ cR a_t a_t_text a_t_code a_t_waiting t_length t_codes t_waits t_fault t_faultPlace t_at t_place (7 : Int32) t_number t_state t_name t_compared t_open t_parentheses t_text_r) := hD
              cases hf
              exact retv X hK hP hD hS dX5_readWord_179
          · have hf := ineg c21 hf
            refine lv_iconst (v := (5 : Int32)) hx hb dX5_readWord_115 (by decide) ?_
            refine lv_goto (tgt := 176) hx hb dX5_readWord_116 (by decide) ?_
            refine va_put (D := D) (ci := 5) (v := .int (5 : Int32)) (ty := .int) (C := RX5) (T := TX5) (N := 17) hx hb hts in_X5_readWord_X5 tyX5 tyX5_ok nmX5 hown hK hP hD hS 0 rfl rfl 10 (by decide) (hts (.fieldLink RX5 64 "DivisionHall$Reader" "sign" "I") (by decide +kernel)) (fun _ h9 => h9) rfl (by decide +kernel) rfl rfl (Nat.le_of_ble_eq_true rfl) dX5_readWord_176 (fun H locs hP hD hS => ?_)
            have hP : va_P D vwCl (wd_X5_readWord cI cZ cR a_t a_t_text a_t_code a_t_waiting t_length t_codes t_waits t_fault t_faultPlace t_at t_place (5 : Int32) t_number t_state t_name t_compared t_open t_parentheses t_text_r) H := hP
            have hD : va_D A (wd_X5_readWord cI cZ cR a_t a_t_text a_t_code a_t_waiting t_length t_codes t_waits t_fault t_faultPlace t_at t_place (5 : Int32) t_number t_state t_name t_compared t_open t_parentheses t_text_r) := hD
            cases hf
            exact retv X hK hP hD hS dX5_readWord_179
        · have hf := ineg c18 hf
          refine lv_bipush (v := (11 : Int32)) hx hb dX5_readWord_101 (by decide) ?_
          refine lv_goto (tgt := 176) hx hb dX5_readWord_103 (by decide) ?_
          refine va_put (D := D) (ci := 5) (v := .int (11 : Int32)) (ty := .int) (C := RX5) (T := TX5) (N := 17) hx hb hts in_X5_readWord_X5 tyX5 tyX5_ok nmX5 hown hK hP hD hS 0 rfl rfl 10 (by decide) (hts (.fieldLink RX5 64 "DivisionHall$Reader" "sign" "I") (by decide +kernel)) (fun _ h9 => h9) rfl (by decide +kernel) rfl rfl (Nat.le_of_ble_eq_true rfl) dX5_readWord_176 (fun H locs hP hD hS => ?_)
          have hP : va_P D vwCl (wd_X5_readWord cI cZ cR a_t a_t_text a_t_code a_t_waiting t_length t_codes t_waits t_fault t_faultPlace t_at t_place (11 : Int32) t_number t_state t_name t_compared t_open t_parentheses t_text_r) H := hP
          have hD : va_D A (wd_X5_readWord cI cZ cR a_t a_t_text a_t_code a_t_waiting t_length t_codes t_waits t_fault t_faultPlace t_at t_place (11 : Int32) t_number t_state t_name t_compared t_open t_parentheses t_text_r) := hD
          cases hf
          exact retv X hK hP hD hS dX5_readWord_179
      · have hf := ineg c15 hf
        refine lv_bipush (v := (14 : Int32)) hx hb dX5_readWord_87 (by decide) ?_
        refine lv_goto (tgt := 176) hx hb dX5_readWord_89 (by decide) ?_
        refine va_put (D := D) (ci := 5) (v := .int (14 : Int32)) (ty := .int) (C := RX5) (T := TX5) (N := 17) hx hb hts in_X5_readWord_X5 tyX5 tyX5_ok nmX5 hown hK hP hD hS 0 rfl rfl 10 (by decide) (hts (.fieldLink RX5 64 "DivisionHall$Reader" "sign" "I") (by decide +kernel)) (fun _ h9 => h9) rfl (by decide +kernel) rfl rfl (Nat.le_of_ble_eq_true rfl) dX5_readWord_176 (fun H locs hP hD hS => ?_)
        have hP : va_P D vwCl (wd_X5_readWord cI cZ cR a_t a_t_text a_t_code a_t_waiting t_length t_codes t_waits t_fault t_faultPlace t_at t_place (14 : Int32) t_number t_state t_name t_compared t_open t_parentheses t_text_r) H := hP
        have hD : va_D A (wd_X5_readWord cI cZ cR a_t a_t_text a_t_code a_t_waiting t_length t_codes t_waits t_fault t_faultPlace t_at t_place (14 : Int32) t_number t_state t_name t_compared t_open t_parentheses t_text_r) := hD
        cases hf
        exact retv X hK hP hD hS dX5_readWord_179
    · have hf := ineg c12 hf
      refine lv_bipush (v := (21 : Int32)) hx hb dX5_readWord_73 (by decide) ?_
      refine lv_goto (tgt := 176) hx hb dX5_readWord_75 (by decide) ?_
      refine va_put (D := D) (ci := 5) (v := .int (21 : Int32)) (ty := .int) (C := RX5) (T := TX5) (N := 17) hx hb hts in_X5_readWord_X5 tyX5 tyX5_ok nmX5 hown hK hP hD hS 0 rfl rfl 10 (by decide) (hts (.fieldLink RX5 64 "DivisionHall$Reader" "sign" "I") (by decide +kernel)) (fun _ h9 => h9) rfl (by decide +kernel) rfl rfl (Nat.le_of_ble_eq_true rfl) dX5_readWord_176 (fun H locs hP hD hS => ?_)
      have hP : va_P D vwCl (wd_X5_readWord cI cZ cR a_t a_t_text a_t_code a_t_waiting t_length t_codes t_waits t_fault t_faultPlace t_at t_place (21 : Int32) t_number t_state t_name t_compared t_open t_parentheses t_text_r) H := hP
      have hD : va_D A (wd_X5_readWord cI cZ cR a_t a_t_text a_t_code a_t_waiting t_length t_codes t_waits t_fault t_faultPlace t_at t_place (21 : Int32) t_number t_state t_name t_compared t_open t_parentheses t_text_r) := hD
      cases hf
      exact retv X hK hP hD hS dX5_readWord_179
  · have hf := ineg c9 hf
    refine lv_bipush (v := (22 : Int32)) hx hb dX5_readWord_59 (by decide) ?_
    refine lv_goto (tgt := 176) hx hb dX5_readWord_61 (by decide) ?_
    refine va_put (D := D) (ci := 5) (v := .int (22 : Int32)) (ty := .int) (C := RX5) (T := TX5) (N := 17) hx hb hts in_X5_readWord_X5 tyX5 tyX5_ok nmX5 hown hK hP hD hS 0 rfl rfl 10 (by decide) (hts (.fieldLink RX5 64 "DivisionHall$Reader" "sign" "I") (by decide +kernel)) (fun _ h9 => h9) rfl (by decide +kernel) rfl rfl (Nat.le_of_ble_eq_true rfl) dX5_readWord_176 (fun H locs hP hD hS => ?_)
    have hP : va_P D vwCl (wd_X5_readWord cI cZ cR a_t a_t_text a_t_code a_t_waiting t_length t_codes t_waits t_fault t_faultPlace t_at t_place (22 : Int32) t_number t_state t_name t_compared t_open t_parentheses t_text_r) H := hP
    have hD : va_D A (wd_X5_readWord cI cZ cR a_t a_t_text a_t_code a_t_waiting t_length t_codes t_waits t_fault t_faultPlace t_at t_place (22 : Int32) t_number t_state t_name t_compared t_open t_parentheses t_text_r) := hD
    cases hf
    exact retv X hK hP hD hS dX5_readWord_179
set_option maxHeartbeats 4000000 in
set_option maxRecDepth 100000 in
theorem w_X5_readWord_0 {p : Program} {l : Launch} {e : Env} {s : State} {m : MethodId} {args : Array Value} {below : List Frame} {meth : Method} {c : Code} {D : va_G} {cI cZ cR : ClassId} {A : Nat → Prop} {adK adV : Nat → Nat} {a_t a_t_text a_t_code a_t_waiting : Nat} {t_length : Int32} {t_codes : Int32} {t_waits : Int32} {t_fault : Int32} {t_faultPlace : Int32} {t_place : Int32} {t_number : Int32} {t_state : Int32} {t_name : Int32} {t_compared : Int32} {t_open : Int32} {t_parentheses : Int32} {t_text_r : Nat → Int32} {out : Int32 × Int32} (X : cx p s m args meth c cX5_readWord 1 none RX5 wsX5_readWord) (hK : va_K D vwCl (ty3 cI cZ cR) s) (hA : ∀ q, s.heap.size ≤ q → A q) (hW : SW adK adV A s s.heap) : ∀ (n : Nat) (t_at : Int32) (t_sign : Int32), F_X5_readWord_0 t_length t_place t_text_r n t_at t_sign = some out → ∀ (H : Heap) (locs : List Loc), va_P D vwCl (wd_X5_readWord cI cZ cR a_t a_t_text a_t_code a_t_waiting t_length t_codes t_waits t_fault t_faultPlace t_at t_place t_sign t_number t_state t_name t_compared t_open t_parentheses t_text_r) H → va_D A (wd_X5_readWord cI cZ cR a_t a_t_text a_t_code a_t_waiting t_length t_codes t_waits t_fault t_faultPlace t_at t_place t_sign t_number t_state t_name t_compared t_open t_parentheses t_text_r) → va_S A s.heap H locs → ∀ (ls : Array Slot), lv_has ls 1 [(0, .ref a_t)] → W p l e (headSpec wsX5_readWord ({ frames := 5, cells := 0, slots := 0, locals := 107 } : Room)).room s m args below meth c H locs 0 0 (MQ below (qv D cI cZ cR A (wd_X5_readWord cI cZ cR a_t a_t_text a_t_code a_t_waiting t_length t_codes t_waits t_fault t_faultPlace (out.1) t_place (out.2) t_number t_state t_name t_compared t_open t_parentheses t_text_r)) args s 0 0 A) (F0 m 0 ls []) := by
  obtain ⟨hx, hb, hml, hr, hown, hts, hlocks, hN⟩ := id X
  intro n
  induction n with
  | zero =>
    intro t_at t_sign hf
    cases (show (none : Option (Int32 × Int32)) = some out from hf)
  | succ n ih =>
    intro t_at t_sign hf H locs hP hD hS ls hl
    rw [F_X5_readWord_0] at hf
    refine lv_aload_n hx hb dX5_readWord_0 rfl (lv_at hl 0 rfl) ?_
    refine va_get (D := D) (ci := 5) (v := .int t_at) (C := RX5) (T := TX5) (N := 17) hx hb hts in_X5_readWord_X5 hown hK hP 0 rfl rfl 8 (by decide) (hts (.fieldLink RX5 37 "DivisionHall$Reader" "at" "I") (by decide +kernel)) (fun _ h9 => h9) rfl dX5_readWord_1 ?_
    refine lv_aload_n hx hb dX5_readWord_4 rfl (lv_at hl 0 rfl) ?_
    refine va_get (D := D) (ci := 5) (v := .int t_length) (C := RX5) (T := TX5) (N := 17) hx hb hts in_X5_readWord_X5 hown hK hP 0 rfl rfl 3 (by decide) (hts (.fieldLink RX5 25 "DivisionHall$Reader" "length" "I") (by decide +kernel)) (fun _ h9 => h9) rfl dX5_readWord_5 ?_
    refine lv_icmp_ge (tgt := 49) hx hb dX5_readWord_8 (by decide) (fun c1 => ?_) (fun c1 => ?_)
    · have hf := ipos c1 hf
      exact w_X5_readWord_49 X hK hA hW t_at t_sign hf _ _ hP hD hS _ (lv_sub hl [0] rfl)
    · have hf := ineg c1 hf
      refine lv_aload_n hx hb dX5_readWord_11 rfl (lv_at hl 0 rfl) ?_
      refine va_get (D := D) (ci := 5) (v := .int t_at) (C := RX5) (T := TX5) (N := 17) hx hb hts in_X5_readWord_X5 hown hK hP 0 rfl rfl 8 (by decide) (hts (.fieldLink RX5 37 "DivisionHall$Reader" "at" "I") (by decide +kernel)) (fun _ h9 => h9) rfl dX5_readWord_12 ?_
      refine lv_sipush (v := (400 : Int32)) hx hb dX5_readWord_15 (by decide) ?_
      refine lv_icmp_ge (tgt := 49) hx hb dX5_readWord_18 (by decide) (fun c2 => ?_) (fun c2 => ?_)
      · have hf := ipos c2 hf
        exact w_X5_readWord_49 X hK hA hW t_at t_sign hf _ _ hP hD hS _ (lv_sub hl [0] rfl)
      · have hf := ineg c2 hf
        refine lv_aload_n hx hb dX5_readWord_21 rfl (lv_at hl 0 rfl) ?_
        refine va_get (D := D) (ci := 5) (v := .ref a_t_text) (C := RX5) (T := TX5) (N := 17) hx hb hts in_X5_readWord_X5 hown hK hP 0 rfl rfl 0 (by decide) (hts (.fieldLink RX5 9 "DivisionHall$Reader" "text" "[I") (by decide +kernel)) (fun _ h9 => h9) rfl dX5_readWord_22 ?_
        refine lv_aload_n hx hb dX5_readWord_25 rfl (lv_at hl 0 rfl) ?_
        refine va_get (D := D) (ci := 5) (v := .int t_at) (C := RX5) (T := TX5) (N := 17) hx hb hts in_X5_readWord_X5 hown hK hP 0 rfl rfl 8 (by decide) (hts (.fieldLink RX5 37 "DivisionHall$Reader" "at" "I") (by decide +kernel)) (fun _ h9 => h9) rfl dX5_readWord_26 ?_
        obtain ⟨hi3, hf⟩ := gin_s hf
        refine va_iald hx hb hK hP 1 0 rfl rfl hi3 dX5_readWord_29 ?_
        obtain ⟨r4, hr5, hf⟩ := bnd hf
        refine wcalli (D := D) (cI := cI) (cZ := cZ) (cR := cR) (wc := (wd_X5_isLetter cI cZ cR)) (w' := (wd_X5_isLetter cI cZ cR)) [] hP hD hS hA rfl rfl rfl (rnS (As := [.int (t_text_r (t_at).toNatClampNeg)]) X [] hK hP hD rfl rfl (c_X5_isLetter l D cI cZ cR hr5) (cwS 1 hts gX5_readWord_X5_isLetter rfl rfl rfl (by decide +kernel) ⟨Nat.le_of_ble_eq_true rfl, Nat.le_of_ble_eq_true rfl⟩) rfl hl.1 rfl (Nat.le_of_ble_eq_true rfl) dX5_readWord_30) (fun H locs hP hD hS => ?_)
        have hP : va_P D vwCl (wd_X5_readWord cI cZ cR a_t a_t_text a_t_code a_t_waiting t_length t_codes t_waits t_fault t_faultPlace t_at t_place t_sign t_number t_state t_name t_compared t_open t_parentheses t_text_r) H := hP
        have hD : va_D A (wd_X5_readWord cI cZ cR a_t a_t_text a_t_code a_t_waiting t_length t_codes t_waits t_fault t_faultPlace t_at t_place t_sign t_number t_state t_name t_compared t_open t_parentheses t_text_r) := hD
        refine lv_if_eq (tgt := 49) hx hb dX5_readWord_33 (by decide) (fun c6 => ?_) (fun c6 => ?_)
        · have hf := ipos c6 hf
          exact w_X5_readWord_49 X hK hA hW t_at t_sign hf _ _ hP hD hS _ (lv_sub hl [0] rfl)
        · have hf := ineg c6 hf
          refine lv_aload_n hx hb dX5_readWord_36 rfl (lv_at hl 0 rfl) ?_
          refine lv_dup hx hb dX5_readWord_37 rfl ?_
          refine va_get (D := D) (ci := 5) (v := .int t_at) (C := RX5) (T := TX5) (N := 17) hx hb hts in_X5_readWord_X5 hown hK hP 0 rfl rfl 8 (by decide) (hts (.fieldLink RX5 37 "DivisionHall$Reader" "at" "I") (by decide +kernel)) (fun _ h9 => h9) rfl dX5_readWord_38 ?_
          refine lv_iconst (v := (1 : Int32)) hx hb dX5_readWord_41 (by decide) ?_
          refine lv_iadd hx hb dX5_readWord_42 ?_
          refine va_put (D := D) (ci := 5) (v := .int (t_at + (1 : Int32))) (ty := .int) (C := RX5) (T := TX5) (N := 17) hx hb hts in_X5_readWord_X5 tyX5 tyX5_ok nmX5 hown hK hP hD hS 0 rfl rfl 8 (by decide) (hts (.fieldLink RX5 37 "DivisionHall$Reader" "at" "I") (by decide +kernel)) (fun _ h9 => h9) rfl (by decide +kernel) rfl rfl (Nat.le_of_ble_eq_true rfl) dX5_readWord_43 (fun H locs hP hD hS => ?_)
          have hP : va_P D vwCl (wd_X5_readWord cI cZ cR a_t a_t_text a_t_code a_t_waiting t_length t_codes t_waits t_fault t_faultPlace (t_at + (1 : Int32)) t_place t_sign t_number t_state t_name t_compared t_open t_parentheses t_text_r) H := hP
          have hD : va_D A (wd_X5_readWord cI cZ cR a_t a_t_text a_t_code a_t_waiting t_length t_codes t_waits t_fault t_faultPlace (t_at + (1 : Int32)) t_place t_sign t_number t_state t_name t_compared t_open t_parentheses t_text_r) := hD
          refine lv_goto (tgt := 0) hx hb dX5_readWord_46 (by decide) ?_
          exact ih (t_at + (1 : Int32)) t_sign hf _ _ hP hD hS _ (lv_sub hl [0] rfl)
set_option maxHeartbeats 4000000 in
set_option maxRecDepth 100000 in
theorem c_X5_readWord (l : Launch) (adK adV : Nat → Nat) (D : va_G) (cI cZ cR : ClassId) {a_t a_t_text a_t_code a_t_waiting : Nat} {t_length : Int32} {t_codes : Int32} {t_waits : Int32} {t_fault : Int32} {t_faultPlace : Int32} {t_at : Int32} {t_place : Int32} {t_sign : Int32} {t_number : Int32} {t_state : Int32} {t_name : Int32} {t_compared : Int32} {t_open : Int32} {t_parentheses : Int32} {t_text_r : Nat → Int32} {sz : Nat} {out : Int32 × Int32} (hf : F_X5_readWord t_at t_length t_place t_sign t_text_r = some out) : CVS l yX5_readWord wsX5_readWord ({ frames := 5, cells := 0, slots := 0, locals := 107 } : Room) adK adV D cI cZ cR [.ref a_t] (wd_X5_readWord cI cZ cR a_t a_t_text a_t_code a_t_waiting t_length t_codes t_waits t_fault t_faultPlace t_at t_place t_sign t_number t_state t_name t_compared t_open t_parentheses t_text_r) sz (wd_X5_readWord cI cZ cR a_t a_t_text a_t_code a_t_waiting t_length t_codes t_waits t_fault t_faultPlace (out.1) t_place (out.2) t_number t_state t_name t_compared t_open t_parentheses t_text_r) := by
  refine met_ofS (Qf := fun A => qv D cI cZ cR A (wd_X5_readWord cI cZ cR a_t a_t_text a_t_code a_t_waiting t_length t_codes t_waits t_fault t_faultPlace (out.1) t_place (out.2) t_number t_state t_name t_compared t_open t_parentheses t_text_r)) RX5 (by decide +kernel) rfl rfl (Nat.le_of_ble_eq_true rfl) ?_
  intro p e s m below meth c A X hK hA hW hP hD hS ls hl
  have hl : lv_has ls 1 [(0, .ref a_t)] := hl
  obtain ⟨hx, hb, hml, hr, hown, hts, hlocks, hN⟩ := id X
  unfold F_X5_readWord at hf
  exact w_X5_readWord_0 X hK hA hW _ t_at t_sign hf _ _ hP hD hS _ (lv_sub hl [0] rfl)

abbrev wd_X5_nextToken (cI cZ cR : ClassId) (a_t a_t_text a_t_code a_t_waiting : Nat) (t_length t_codes t_waits t_fault t_faultPlace t_at t_place t_sign t_number t_state t_name t_compared t_open t_parentheses : Int32) (t_text_r : Nat → Int32) : va_W := [(a_t, oB 5 [.ref a_t_text, .ref a_t_code, .ref a_t_waiting, .int t_length, .int t_codes, .int t_waits, .int t_fault, .int t_faultPlace, .int t_at, .int t_place, .int t_sign, .int t_number, .int t_state, .int t_name, .int t_compared, .int t_open, .int t_parentheses]), (a_t_text, aI cI 400 t_text_r)]
set_option maxRecDepth 100000 in
theorem in_X5_nextToken_X5 : ∀ w ∈ wsX50, w ∈ wsX5_nextToken := by decide +kernel
set_option maxHeartbeats 4000000 in
set_option maxRecDepth 100000 in
theorem w_X5_nextToken_62 {p : Program} {l : Launch} {e : Env} {s : State} {m : MethodId} {args : Array Value} {below : List Frame} {meth : Method} {c : Code} {D : va_G} {cI cZ cR : ClassId} {A : Nat → Prop} {adK adV : Nat → Nat} {a_t a_t_text a_t_code a_t_waiting : Nat} {t_length : Int32} {t_codes : Int32} {t_waits : Int32} {t_fault : Int32} {t_faultPlace : Int32} {t_state : Int32} {t_name : Int32} {t_compared : Int32} {t_open : Int32} {t_parentheses : Int32} {t_text_r : Nat → Int32} {out : Int32 × Int32 × Int32 × Int32} (X : cx p s m args meth c cX5_nextToken 1 none RX5 wsX5_nextToken) (hK : va_K D vwCl (ty3 cI cZ cR) s) (hA : ∀ q, s.heap.size ≤ q → A q) (hW : SW adK adV A s s.heap) : ∀ (t_at : Int32) (t_number : Int32) (t_place : Int32) (t_sign : Int32), F_X5_nextToken_62 t_length t_text_r t_at t_number t_place t_sign = some out → ∀ (H : Heap) (locs : List Loc), va_P D vwCl (wd_X5_nextToken cI cZ cR a_t a_t_text a_t_code a_t_waiting t_length t_codes t_waits t_fault t_faultPlace t_at t_place t_sign t_number t_state t_name t_compared t_open t_parentheses t_text_r) H → va_D A (wd_X5_nextToken cI cZ cR a_t a_t_text a_t_code a_t_waiting t_length t_codes t_waits t_fault t_faultPlace t_at t_place t_sign t_number t_state t_name t_compared t_open t_parentheses t_text_r) → va_S A s.heap H locs → ∀ (ls : Array Slot), lv_has ls 1 [(0, .ref a_t)] → W p l e (headSpec wsX5_nextToken ({ frames := 6, cells := 0, slots := 0, locals := 127 } : Room)).room s m args below meth c H locs 0 0 (MQ below (qv D cI cZ cR A (wd_X5_nextToken cI cZ cR a_t a_t_text a_t_code a_t_waiting t_length t_codes t_waits t_fault t_faultPlace (out.1) (out.2.2.1) (out.2.2.2) (out.2.1) t_state t_name t_compared t_open t_parentheses t_text_r)) args s 0 0 A) (F0 m 62 ls []) := by
  obtain ⟨hx, hb, hml, hr, hown, hts, hlocks, hN⟩ := id X
  intro t_at t_number t_place t_sign hf H locs hP hD hS ls hl
  unfold F_X5_nextToken_62 at hf
  refine lv_aload_n hx hb dX5_nextToken_62 rfl (lv_at hl 0 rfl) ?_
  refine lv_aload_n hx hb dX5_nextToken_63 rfl (lv_at hl 0 rfl) ?_
  refine va_get (D := D) (ci := 5) (v := .int t_at) (C := RX5) (T := TX5) (N := 17) hx hb hts in_X5_nextToken_X5 hown hK hP 0 rfl rfl 8 (by decide) (hts (.fieldLink RX5 37 "DivisionHall$Reader" "at" "I") (by decide +kernel)) (fun _ h9 => h9) rfl dX5_nextToken_64 ?_
  refine va_put (D := D) (ci := 5) (v := .int t_at) (ty := .int) (C := RX5) (T := TX5) (N := 17) hx hb hts in_X5_nextToken_X5 tyX5 tyX5_ok nmX5 hown hK hP hD hS 0 rfl rfl 9 (by decide) (hts (.fieldLink RX5 59 "DivisionHall$Reader" "place" "I") (by decide +kernel)) (fun _ h9 => h9) rfl (by decide +kernel) rfl rfl (Nat.le_of_ble_eq_true rfl) dX5_nextToken_67 (fun H locs hP hD hS => ?_)
  have hP : va_P D vwCl (wd_X5_nextToken cI cZ cR a_t a_t_text a_t_code a_t_waiting t_length t_codes t_waits t_fault t_faultPlace t_at t_at t_sign t_number t_state t_name t_compared t_open t_parentheses t_text_r) H := hP
  have hD : va_D A (wd_X5_nextToken cI cZ cR a_t a_t_text a_t_code a_t_waiting t_length t_codes t_waits t_fault t_faultPlace t_at t_at t_sign t_number t_state t_name t_compared t_open t_parentheses t_text_r) := hD
  refine lv_aload_n hx hb dX5_nextToken_70 rfl (lv_at hl 0 rfl) ?_
  refine va_get (D := D) (ci := 5) (v := .int t_at) (C := RX5) (T := TX5) (N := 17) hx hb hts in_X5_nextToken_X5 hown hK hP 0 rfl rfl 8 (by decide) (hts (.fieldLink RX5 37 "DivisionHall$Reader" "at" "I") (by decide +kernel)) (fun _ h9 => h9) rfl dX5_nextToken_71 ?_
  refine lv_aload_n hx hb dX5_nextToken_74 rfl (lv_at hl 0 rfl) ?_
  refine va_get (D := D) (ci := 5) (v := .int t_length) (C := RX5) (T := TX5) (N := 17) hx hb hts in_X5_nextToken_X5 hown hK hP 0 rfl rfl 3 (by decide) (hts (.fieldLink RX5 25 "DivisionHall$Reader" "length" "I") (by decide +kernel)) (fun _ h9 => h9) rfl dX5_nextToken_75 ?_
  refine lv_icmp_ge (tgt := 91) hx hb dX5_nextToken_78 (by decide) (fun c7 => ?_) (fun c7 => ?_)
  · have hf := ipos c7 hf
    refine lv_aload_n hx hb dX5_nextToken_91 rfl (lv_at hl 0 rfl) ?_
    refine lv_iconst (v := (0 : Int32)) hx hb dX5_nextToken_92 (by decide) ?_
    refine va_put (D := D) (ci := 5) (v := .int (0 : Int32)) (ty := .int) (C := RX5) (T := TX5) (N := 17) hx hb hts in_X5_nextToken_X5 tyX5 tyX5_ok nmX5 hown hK hP hD hS 0 rfl rfl 10 (by decide) (hts (.fieldLink RX5 64 "DivisionHall$Reader" "sign" "I") (by decide +kernel)) (fun _ h9 => h9) rfl (by decide +kernel) rfl rfl (Nat.le_of_ble_eq_true rfl) dX5_nextToken_93 (fun H locs hP hD hS => ?_)
    have hP : va_P D vwCl (wd_X5_nextToken cI cZ cR a_t a_t_text a_t_code a_t_waiting t_length t_codes t_waits t_fault t_faultPlace t_at t_at (0 : Int32) t_number t_state t_name t_compared t_open t_parentheses t_text_r) H := hP
    have hD : va_D A (wd_X5_nextToken cI cZ cR a_t a_t_text a_t_code a_t_waiting t_length t_codes t_waits t_fault t_faultPlace t_at t_at (0 : Int32) t_number t_state t_name t_compared t_open t_parentheses t_text_r) := hD
    refine lv_goto (tgt := 169) hx hb dX5_nextToken_96 (by decide) ?_
    cases hf
    exact retv X hK hP hD hS dX5_nextToken_169
  · have hf := ineg c7 hf
    refine lv_aload_n hx hb dX5_nextToken_81 rfl (lv_at hl 0 rfl) ?_
    refine va_get (D := D) (ci := 5) (v := .int t_at) (C := RX5) (T := TX5) (N := 17) hx hb hts in_X5_nextToken_X5 hown hK hP 0 rfl rfl 8 (by decide) (hts (.fieldLink RX5 37 "DivisionHall$Reader" "at" "I") (by decide +kernel)) (fun _ h9 => h9) rfl dX5_nextToken_82 ?_
    refine lv_sipush (v := (400 : Int32)) hx hb dX5_nextToken_85 (by decide) ?_
    refine lv_icmp_lt (tgt := 99) hx hb dX5_nextToken_88 (by decide) (fun c8 => ?_) (fun c8 => ?_)
    · have hf := ipos c8 hf
      refine lv_aload_n hx hb dX5_nextToken_99 rfl (lv_at hl 0 rfl) ?_
      refine va_get (D := D) (ci := 5) (v := .ref a_t_text) (C := RX5) (T := TX5) (N := 17) hx hb hts in_X5_nextToken_X5 hown hK hP 0 rfl rfl 0 (by decide) (hts (.fieldLink RX5 9 "DivisionHall$Reader" "text" "[I") (by decide +kernel)) (fun _ h9 => h9) rfl dX5_nextToken_100 ?_
      refine lv_aload_n hx hb dX5_nextToken_103 rfl (lv_at hl 0 rfl) ?_
      refine va_get (D := D) (ci := 5) (v := .int t_at) (C := RX5) (T := TX5) (N := 17) hx hb hts in_X5_nextToken_X5 hown hK hP 0 rfl rfl 8 (by decide) (hts (.fieldLink RX5 37 "DivisionHall$Reader" "at" "I") (by decide +kernel)) (fun _ h9 => h9) rfl dX5_nextToken_104 ?_
      obtain ⟨hi9, hf⟩ := gin_s hf
      refine va_iald hx hb hK hP 1 0 rfl rfl hi9 dX5_nextToken_107 ?_
      obtain ⟨r10, hr11, hf⟩ := bnd hf
      refine wcalli (D := D) (cI := cI) (cZ := cZ) (cR := cR) (wc := (wd_X5_isLetter cI cZ cR)) (w' := (wd_X5_isLetter cI cZ cR)) [] hP hD hS hA rfl rfl rfl (rnS (As := [.int (t_text_r (t_at).toNatClampNeg)]) X [] hK hP hD rfl rfl (c_X5_isLetter l D cI cZ cR hr11) (cwS 1 hts gX5_nextToken_X5_isLetter rfl rfl rfl (by decide +kernel) ⟨Nat.le_of_ble_eq_true rfl, Nat.le_of_ble_eq_true rfl⟩) rfl hl.1 rfl (Nat.le_of_ble_eq_true rfl) dX5_nextToken_108) (fun H locs hP hD hS => ?_)
      have hP : va_P D vwCl (wd_X5_nextToken cI cZ cR a_t a_t_text a_t_code a_t_waiting t_length t_codes t_waits t_fault t_faultPlace t_at t_at t_sign t_number t_state t_name t_compared t_open t_parentheses t_text_r) H := hP
      have hD : va_D A (wd_X5_nextToken cI cZ cR a_t a_t_text a_t_code a_t_waiting t_length t_codes t_waits t_fault t_faultPlace t_at t_at t_sign t_number t_state t_name t_compared t_open t_parentheses t_text_r) := hD
      refine lv_if_eq (tgt := 121) hx hb dX5_nextToken_111 (by decide) (fun c12 => ?_) (fun c12 => ?_)
      · have hf := ipos c12 hf
        refine lv_aload_n hx hb dX5_nextToken_121 rfl (lv_at hl 0 rfl) ?_
        refine va_get (D := D) (ci := 5) (v := .ref a_t_text) (C := RX5) (T := TX5) (N := 17) hx hb hts in_X5_nextToken_X5 hown hK hP 0 rfl rfl 0 (by decide) (hts (.fieldLink RX5 9 "DivisionHall$Reader" "text" "[I") (by decide +kernel)) (fun _ h9 => h9) rfl dX5_nextToken_122 ?_
        refine lv_aload_n hx hb dX5_nextToken_125 rfl (lv_at hl 0 rfl) ?_
        refine va_get (D := D) (ci := 5) (v := .int t_at) (C := RX5) (T := TX5) (N := 17) hx hb hts in_X5_nextToken_X5 hown hK hP 0 rfl rfl 8 (by decide) (hts (.fieldLink RX5 37 "DivisionHall$Reader" "at" "I") (by decide +kernel)) (fun _ h9 => h9) rfl dX5_nextToken_126 ?_
        obtain ⟨hi13, hf⟩ := gin_s hf
        refine va_iald hx hb hK hP 1 0 rfl rfl hi13 dX5_nextToken_129 ?_
        obtain ⟨r14, hr15, hf⟩ := bnd hf
        refine wcalli (D := D) (cI := cI) (cZ := cZ) (cR := cR) (wc := (wd_X5_isDigit cI cZ cR)) (w' := (wd_X5_isDigit cI cZ cR)) [] hP hD hS hA rfl rfl rfl (rnS (As := [.int (t_text_r (t_at).toNatClampNeg)]) X [] hK hP hD rfl rfl (c_X5_isDigit l D cI cZ cR hr15) (cwS 1 hts gX5_nextToken_X5_isDigit rfl rfl rfl (by decide +kernel) ⟨Nat.le_of_ble_eq_true rfl, Nat.le_of_ble_eq_true rfl⟩) rfl hl.1 rfl (Nat.le_of_ble_eq_true rfl) dX5_nextToken_130) (fun H locs hP hD hS => ?_)
        have hP : va_P D vwCl (wd_X5_nextToken cI cZ cR a_t a_t_text a_t_code a_t_waiting t_length t_codes t_waits t_fault t_faultPlace t_at t_at t_sign t_number t_state t_name t_compared t_open t_parentheses t_text_r) H := hP
        have hD : va_D A (wd_X5_nextToken cI cZ cR a_t a_t_text a_t_code a_t_waiting t_length t_codes t_waits t_fault t_faultPlace t_at t_at t_sign t_number t_state t_name t_compared t_open t_parentheses t_text_r) := hD
        refine lv_if_eq (tgt := 143) hx hb dX5_nextToken_133 (by decide) (fun c16 => ?_) (fun c16 => ?_)
        · have hf := ipos c16 hf
          refine lv_aload_n hx hb dX5_nextToken_143 rfl (lv_at hl 0 rfl) ?_
          refine lv_aload_n hx hb dX5_nextToken_144 rfl (lv_at hl 0 rfl) ?_
          refine va_get (D := D) (ci := 5) (v := .ref a_t_text) (C := RX5) (T := TX5) (N := 17) hx hb hts in_X5_nextToken_X5 hown hK hP 0 rfl rfl 0 (by decide) (hts (.fieldLink RX5 9 "DivisionHall$Reader" "text" "[I") (by decide +kernel)) (fun _ h9 => h9) rfl dX5_nextToken_145 ?_
          refine lv_aload_n hx hb dX5_nextToken_148 rfl (lv_at hl 0 rfl) ?_
          refine va_get (D := D) (ci := 5) (v := .int t_at) (C := RX5) (T := TX5) (N := 17) hx hb hts in_X5_nextToken_X5 hown hK hP 0 rfl rfl 8 (by decide) (hts (.fieldLink RX5 37 "DivisionHall$Reader" "at" "I") (by decide +kernel)) (fun _ h9 => h9) rfl dX5_nextToken_149 ?_
          obtain ⟨hi17, hf⟩ := gin_s hf
          refine va_iald hx hb hK hP 1 0 rfl rfl hi17 dX5_nextToken_152 ?_
          obtain ⟨r18, hr19, hf⟩ := bnd hf
          refine wcalli (D := D) (cI := cI) (cZ := cZ) (cR := cR) (wc := (wd_X8_ofMark cI cZ cR)) (w' := (wd_X8_ofMark cI cZ cR)) [] hP hD hS hA rfl rfl rfl (rnS (As := [.int (t_text_r (t_at).toNatClampNeg)]) X [] hK hP hD rfl rfl (c_X8_ofMark l D cI cZ cR hr19) ⟨callB_of 1 hts ggX5_nextToken_X8_ofMark rfl rfl rfl (hts (.initialized RX8) (by decide +kernel)) (hts (.methodLink RX5 80 yX8_ofMark) (by decide +kernel)) (by decide +kernel) ⟨Nat.le_of_ble_eq_true rfl, Nat.le_of_ble_eq_true rfl⟩, hts (.static yX8_ofMark) (by decide +kernel)⟩ rfl hl.1 rfl (Nat.le_of_ble_eq_true rfl) dX5_nextToken_153) (fun H locs hP hD hS => ?_)
          have hP : va_P D vwCl (wd_X5_nextToken cI cZ cR a_t a_t_text a_t_code a_t_waiting t_length t_codes t_waits t_fault t_faultPlace t_at t_at t_sign t_number t_state t_name t_compared t_open t_parentheses t_text_r) H := hP
          have hD : va_D A (wd_X5_nextToken cI cZ cR a_t a_t_text a_t_code a_t_waiting t_length t_codes t_waits t_fault t_faultPlace t_at t_at t_sign t_number t_state t_name t_compared t_open t_parentheses t_text_r) := hD
          refine va_put (D := D) (ci := 5) (v := .int r18) (ty := .int) (C := RX5) (T := TX5) (N := 17) hx hb hts in_X5_nextToken_X5 tyX5 tyX5_ok nmX5 hown hK hP hD hS 0 rfl rfl 10 (by decide) (hts (.fieldLink RX5 64 "DivisionHall$Reader" "sign" "I") (by decide +kernel)) (fun _ h9 => h9) rfl (by decide +kernel) rfl rfl (Nat.le_of_ble_eq_true rfl) dX5_nextToken_156 (fun H locs hP hD hS => ?_)
          have hP : va_P D vwCl (wd_X5_nextToken cI cZ cR a_t a_t_text a_t_code a_t_waiting t_length t_codes t_waits t_fault t_faultPlace t_at t_at r18 t_number t_state t_name t_compared t_open t_parentheses t_text_r) H := hP
          have hD : va_D A (wd_X5_nextToken cI cZ cR a_t a_t_text a_t_code a_t_waiting t_length t_codes t_waits t_fault t_faultPlace t_at t_at r18 t_number t_state t_name t_compared t_open t_parentheses t_text_r) := hD
          refine lv_aload_n hx hb dX5_nextToken_159 rfl (lv_at hl 0 rfl) ?_
          refine lv_dup hx hb dX5_nextToken_160 rfl ?_
          refine va_get (D := D) (ci := 5) (v := .int t_at) (C := RX5) (T := TX5) (N := 17) hx hb hts in_X5_nextToken_X5 hown hK hP 0 rfl rfl 8 (by decide) (hts (.fieldLink RX5 37 "DivisionHall$Reader" "at" "I") (by decide +kernel)) (fun _ h9 => h9) rfl dX5_nextToken_161 ?_
          refine lv_iconst (v := (1 : Int32)) hx hb dX5_nextToken_164 (by decide) ?_
          refine lv_iadd hx hb dX5_nextToken_165 ?_
          refine va_put (D := D) (ci := 5) (v := .int (t_at + (1 : Int32))) (ty := .int) (C := RX5) (T := TX5) (N := 17) hx hb hts in_X5_nextToken_X5 tyX5 tyX5_ok nmX5 hown hK hP hD hS 0 rfl rfl 8 (by decide) (hts (.fieldLink RX5 37 "DivisionHall$Reader" "at" "I") (by decide +kernel)) (fun _ h9 => h9) rfl (by decide +kernel) rfl rfl (Nat.le_of_ble_eq_true rfl) dX5_nextToken_166 (fun H locs hP hD hS => ?_)
          have hP : va_P D vwCl (wd_X5_nextToken cI cZ cR a_t a_t_text a_t_code a_t_waiting t_length t_codes t_waits t_fault t_faultPlace (t_at + (1 : Int32)) t_at r18 t_number t_state t_name t_compared t_open t_parentheses t_text_r) H := hP
          have hD : va_D A (wd_X5_nextToken cI cZ cR a_t a_t_text a_t_code a_t_waiting t_length t_codes t_waits t_fault t_faultPlace (t_at + (1 : Int32)) t_at r18 t_number t_state t_name t_compared t_open t_parentheses t_text_r) := hD
          cases hf
          exact retv X hK hP hD hS dX5_nextToken_169
        · have hf := ineg c16 hf
          refine lv_aload_n hx hb dX5_nextToken_136 rfl (lv_at hl 0 rfl) ?_
          obtain ⟨r20, hr21, hf⟩ := bnd hf
          refine wcallvA (D := D) (cI := cI) (cZ := cZ) (cR := cR) (wc := (wd_X5_readNumber cI cZ cR a_t a_t_text a_t_code a_t_waiting t_length t_codes t_waits t_fault t_faultPlace t_at t_at t_sign t_number t_state t_name t_compared t_open t_parentheses t_text_r)) (w' := (wd_X5_readNumber cI cZ cR a_t a_t_text a_t_code a_t_waiting t_length t_codes t_waits t_fault t_faultPlace (r20.1) t_at (r20.2.2) (r20.2.1) t_state t_name t_compared t_open t_parentheses t_text_r)) hP hD hS hA rfl (rnVA (As := []) (ci := 5) (q0 := 0) X hK hP hD rfl rfl (c_X5_readNumber l D cI cZ cR hr21) (cwV 0 hts gX5_nextToken_X5_readNumber rfl rfl rfl (by decide +kernel) ⟨Nat.le_of_ble_eq_true rfl, Nat.le_of_ble_eq_true rfl⟩) rfl hl.1 rfl (Nat.le_of_ble_eq_true rfl) dX5_nextToken_137) (fun H locs hP hD hS => ?_)
          have hP : va_P D vwCl (wd_X5_nextToken cI cZ cR a_t a_t_text a_t_code a_t_waiting t_length t_codes t_waits t_fault t_faultPlace (r20.1) t_at (r20.2.2) (r20.2.1) t_state t_name t_compared t_open t_parentheses t_text_r) H := hP
          have hD : va_D A (wd_X5_nextToken cI cZ cR a_t a_t_text a_t_code a_t_waiting t_length t_codes t_waits t_fault t_faultPlace (r20.1) t_at (r20.2.2) (r20.2.1) t_state t_name t_compared t_open t_parentheses t_text_r) := hD
          refine lv_goto (tgt := 169) hx hb dX5_nextToken_140 (by decide) ?_
          cases hf
          exact retv X hK hP hD hS dX5_nextToken_169
      · have hf := ineg c12 hf
        refine lv_aload_n hx hb dX5_nextToken_114 rfl (lv_at hl 0 rfl) ?_
        obtain ⟨r22, hr23, hf⟩ := bnd hf
        refine wcallvA (D := D) (cI := cI) (cZ := cZ) (cR := cR) (wc := (wd_X5_readWord cI cZ cR a_t a_t_text a_t_code a_t_waiting t_length t_codes t_waits t_fault t_faultPlace t_at t_at t_sign t_number t_state t_name t_compared t_open t_parentheses t_text_r)) (w' := (wd_X5_readWord cI cZ cR a_t a_t_text a_t_code a_t_waiting t_length t_codes t_waits t_fault t_faultPlace (r22.1) t_at (r22.2) t_number t_state t_name t_compared t_open t_parentheses t_text_r)) hP hD hS hA rfl (rnVSA (As := []) (ci := 5) (q0 := 0) X hK hP hD hW hS hA rfl rfl (c_X5_readWord l adK adV D cI cZ cR hr23) (cwV 0 hts gX5_nextToken_X5_readWord rfl rfl rfl (by decide +kernel) ⟨Nat.le_of_ble_eq_true rfl, Nat.le_of_ble_eq_true rfl⟩) rfl hl.1 rfl (Nat.le_of_ble_eq_true rfl) dX5_nextToken_115) (fun H locs hP hD hS => ?_)
        have hP : va_P D vwCl (wd_X5_nextToken cI cZ cR a_t a_t_text a_t_code a_t_waiting t_length t_codes t_waits t_fault t_faultPlace (r22.1) t_at (r22.2) t_number t_state t_name t_compared t_open t_parentheses t_text_r) H := hP
        have hD : va_D A (wd_X5_nextToken cI cZ cR a_t a_t_text a_t_code a_t_waiting t_length t_codes t_waits t_fault t_faultPlace (r22.1) t_at (r22.2) t_number t_state t_name t_compared t_open t_parentheses t_text_r) := hD
        refine lv_goto (tgt := 169) hx hb dX5_nextToken_118 (by decide) ?_
        cases hf
        exact retv X hK hP hD hS dX5_nextToken_169
    · have hf := ineg c8 hf
      refine lv_aload_n hx hb dX5_nextToken_91 rfl (lv_at hl 0 rfl) ?_
      refine lv_iconst (v := (0 : Int32)) hx hb dX5_nextToken_92 (by decide) ?_
      refine va_put (D := D) (ci := 5) (v := .int (0 : Int32)) (ty := .int) (C := RX5) (T := TX5) (N := 17) hx hb hts in_X5_nextToken_X5 tyX5 tyX5_ok nmX5 hown hK hP hD hS 0 rfl rfl 10 (by decide) (hts (.fieldLink RX5 64 "DivisionHall$Reader" "sign" "I") (by decide +kernel)) (fun _ h9 => h9) rfl (by decide +kernel) rfl rfl (Nat.le_of_ble_eq_true rfl) dX5_nextToken_93 (fun H locs hP hD hS => ?_)
      have hP : va_P D vwCl (wd_X5_nextToken cI cZ cR a_t a_t_text a_t_code a_t_waiting t_length t_codes t_waits t_fault t_faultPlace t_at t_at (0 : Int32) t_number t_state t_name t_compared t_open t_parentheses t_text_r) H := hP
      have hD : va_D A (wd_X5_nextToken cI cZ cR a_t a_t_text a_t_code a_t_waiting t_length t_codes t_waits t_fault t_faultPlace t_at t_at (0 : Int32) t_number t_state t_name t_compared t_open t_parentheses t_text_r) := hD
      refine lv_goto (tgt := 169) hx hb dX5_nextToken_96 (by decide) ?_
      cases hf
      exact retv X hK hP hD hS dX5_nextToken_169
set_option maxHeartbeats 4000000 in
set_option maxRecDepth 100000 in
theorem w_X5_nextToken_0 {p : Program} {l : Launch} {e : Env} {s : State} {m : MethodId} {args : Array Value} {below : List Frame} {meth : Method} {c : Code} {D : va_G} {cI cZ cR : ClassId} {A : Nat → Prop} {adK adV : Nat → Nat} {a_t a_t_text a_t_code a_t_waiting : Nat} {t_length : Int32} {t_codes : Int32} {t_waits : Int32} {t_fault : Int32} {t_faultPlace : Int32} {t_state : Int32} {t_name : Int32} {t_compared : Int32} {t_open : Int32} {t_parentheses : Int32} {t_text_r : Nat → Int32} {out : Int32 × Int32 × Int32 × Int32} (X : cx p s m args meth c cX5_nextToken 1 none RX5 wsX5_nextToken) (hK : va_K D vwCl (ty3 cI cZ cR) s) (hA : ∀ q, s.heap.size ≤ q → A q) (hW : SW adK adV A s s.heap) : ∀ (n : Nat) (t_at : Int32) (t_number : Int32) (t_place : Int32) (t_sign : Int32), F_X5_nextToken_0 t_length t_text_r n t_at t_number t_place t_sign = some out → ∀ (H : Heap) (locs : List Loc), va_P D vwCl (wd_X5_nextToken cI cZ cR a_t a_t_text a_t_code a_t_waiting t_length t_codes t_waits t_fault t_faultPlace t_at t_place t_sign t_number t_state t_name t_compared t_open t_parentheses t_text_r) H → va_D A (wd_X5_nextToken cI cZ cR a_t a_t_text a_t_code a_t_waiting t_length t_codes t_waits t_fault t_faultPlace t_at t_place t_sign t_number t_state t_name t_compared t_open t_parentheses t_text_r) → va_S A s.heap H locs → ∀ (ls : Array Slot), lv_has ls 1 [(0, .ref a_t)] → W p l e (headSpec wsX5_nextToken ({ frames := 6, cells := 0, slots := 0, locals := 127 } : Room)).room s m args below meth c H locs 0 0 (MQ below (qv D cI cZ cR A (wd_X5_nextToken cI cZ cR a_t a_t_text a_t_code a_t_waiting t_length t_codes t_waits t_fault t_faultPlace (out.1) (out.2.2.1) (out.2.2.2) (out.2.1) t_state t_name t_compared t_open t_parentheses t_text_r)) args s 0 0 A) (F0 m 0 ls []) := by
  obtain ⟨hx, hb, hml, hr, hown, hts, hlocks, hN⟩ := id X
  intro n
  induction n with
  | zero =>
    intro t_at t_number t_place t_sign hf
    cases (show (none : Option (Int32 × Int32 × Int32 × Int32)) = some out from hf)
  | succ n ih =>
    intro t_at t_number t_place t_sign hf H locs hP hD hS ls hl
    rw [F_X5_nextToken_0] at hf
    refine lv_aload_n hx hb dX5_nextToken_0 rfl (lv_at hl 0 rfl) ?_
    refine va_get (D := D) (ci := 5) (v := .int t_at) (C := RX5) (T := TX5) (N := 17) hx hb hts in_X5_nextToken_X5 hown hK hP 0 rfl rfl 8 (by decide) (hts (.fieldLink RX5 37 "DivisionHall$Reader" "at" "I") (by decide +kernel)) (fun _ h9 => h9) rfl dX5_nextToken_1 ?_
    refine lv_aload_n hx hb dX5_nextToken_4 rfl (lv_at hl 0 rfl) ?_
    refine va_get (D := D) (ci := 5) (v := .int t_length) (C := RX5) (T := TX5) (N := 17) hx hb hts in_X5_nextToken_X5 hown hK hP 0 rfl rfl 3 (by decide) (hts (.fieldLink RX5 25 "DivisionHall$Reader" "length" "I") (by decide +kernel)) (fun _ h9 => h9) rfl dX5_nextToken_5 ?_
    refine lv_icmp_ge (tgt := 62) hx hb dX5_nextToken_8 (by decide) (fun c1 => ?_) (fun c1 => ?_)
    · have hf := ipos c1 hf
      exact w_X5_nextToken_62 X hK hA hW t_at t_number t_place t_sign hf _ _ hP hD hS _ (lv_sub hl [0] rfl)
    · have hf := ineg c1 hf
      refine lv_aload_n hx hb dX5_nextToken_11 rfl (lv_at hl 0 rfl) ?_
      refine va_get (D := D) (ci := 5) (v := .int t_at) (C := RX5) (T := TX5) (N := 17) hx hb hts in_X5_nextToken_X5 hown hK hP 0 rfl rfl 8 (by decide) (hts (.fieldLink RX5 37 "DivisionHall$Reader" "at" "I") (by decide +kernel)) (fun _ h9 => h9) rfl dX5_nextToken_12 ?_
      refine lv_sipush (v := (400 : Int32)) hx hb dX5_nextToken_15 (by decide) ?_
      refine lv_icmp_ge (tgt := 62) hx hb dX5_nextToken_18 (by decide) (fun c2 => ?_) (fun c2 => ?_)
      · have hf := ipos c2 hf
        exact w_X5_nextToken_62 X hK hA hW t_at t_number t_place t_sign hf _ _ hP hD hS _ (lv_sub hl [0] rfl)
      · have hf := ineg c2 hf
        refine lv_aload_n hx hb dX5_nextToken_21 rfl (lv_at hl 0 rfl) ?_
        refine va_get (D := D) (ci := 5) (v := .ref a_t_text) (C := RX5) (T := TX5) (N := 17) hx hb hts in_X5_nextToken_X5 hown hK hP 0 rfl rfl 0 (by decide) (hts (.fieldLink RX5 9 "DivisionHall$Reader" "text" "[I") (by decide +kernel)) (fun _ h9 => h9) rfl dX5_nextToken_22 ?_
        refine lv_aload_n hx hb dX5_nextToken_25 rfl (lv_at hl 0 rfl) ?_
        refine va_get (D := D) (ci := 5) (v := .int t_at) (C := RX5) (T := TX5) (N := 17) hx hb hts in_X5_nextToken_X5 hown hK hP 0 rfl rfl 8 (by decide) (hts (.fieldLink RX5 37 "DivisionHall$Reader" "at" "I") (by decide +kernel)) (fun _ h9 => h9) rfl dX5_nextToken_26 ?_
        obtain ⟨hi3, hf⟩ := gin_s hf
        refine va_iald hx hb hK hP 1 0 rfl rfl hi3 dX5_nextToken_29 ?_
        refine lv_bipush (v := (32 : Int32)) hx hb dX5_nextToken_30 (by decide) ?_
        refine lv_icmp_eq (tgt := 49) hx hb dX5_nextToken_32 (by decide) (fun c4 => ?_) (fun c4 => ?_)
        · have hf := ipos c4 hf
          refine lv_aload_n hx hb dX5_nextToken_49 rfl (lv_at hl 0 rfl) ?_
          refine lv_dup hx hb dX5_nextToken_50 rfl ?_
          refine va_get (D := D) (ci := 5) (v := .int t_at) (C := RX5) (T := TX5) (N := 17) hx hb hts in_X5_nextToken_X5 hown hK hP 0 rfl rfl 8 (by decide) (hts (.fieldLink RX5 37 "DivisionHall$Reader" "at" "I") (by decide +kernel)) (fun _ h9 => h9) rfl dX5_nextToken_51 ?_
          refine lv_iconst (v := (1 : Int32)) hx hb dX5_nextToken_54 (by decide) ?_
          refine lv_iadd hx hb dX5_nextToken_55 ?_
          refine va_put (D := D) (ci := 5) (v := .int (t_at + (1 : Int32))) (ty := .int) (C := RX5) (T := TX5) (N := 17) hx hb hts in_X5_nextToken_X5 tyX5 tyX5_ok nmX5 hown hK hP hD hS 0 rfl rfl 8 (by decide) (hts (.fieldLink RX5 37 "DivisionHall$Reader" "at" "I") (by decide +kernel)) (fun _ h9 => h9) rfl (by decide +kernel) rfl rfl (Nat.le_of_ble_eq_true rfl) dX5_nextToken_56 (fun H locs hP hD hS => ?_)
          have hP : va_P D vwCl (wd_X5_nextToken cI cZ cR a_t a_t_text a_t_code a_t_waiting t_length t_codes t_waits t_fault t_faultPlace (t_at + (1 : Int32)) t_place t_sign t_number t_state t_name t_compared t_open t_parentheses t_text_r) H := hP
          have hD : va_D A (wd_X5_nextToken cI cZ cR a_t a_t_text a_t_code a_t_waiting t_length t_codes t_waits t_fault t_faultPlace (t_at + (1 : Int32)) t_place t_sign t_number t_state t_name t_compared t_open t_parentheses t_text_r) := hD
          refine lv_goto (tgt := 0) hx hb dX5_nextToken_59 (by decide) ?_
          exact ih (t_at + (1 : Int32)) t_number t_place t_sign hf _ _ hP hD hS _ (lv_sub hl [0] rfl)
        · have hf := ineg c4 hf
          refine lv_aload_n hx hb dX5_nextToken_35 rfl (lv_at hl 0 rfl) ?_
          refine va_get (D := D) (ci := 5) (v := .ref a_t_text) (C := RX5) (T := TX5) (N := 17) hx hb hts in_X5_nextToken_X5 hown hK hP 0 rfl rfl 0 (by decide) (hts (.fieldLink RX5 9 "DivisionHall$Reader" "text" "[I") (by decide +kernel)) (fun _ h9 => h9) rfl dX5_nextToken_36 ?_
          refine lv_aload_n hx hb dX5_nextToken_39 rfl (lv_at hl 0 rfl) ?_
          refine va_get (D := D) (ci := 5) (v := .int t_at) (C := RX5) (T := TX5) (N := 17) hx hb hts in_X5_nextToken_X5 hown hK hP 0 rfl rfl 8 (by decide) (hts (.fieldLink RX5 37 "DivisionHall$Reader" "at" "I") (by decide +kernel)) (fun _ h9 => h9) rfl dX5_nextToken_40 ?_
          obtain ⟨hi5, hf⟩ := gin_s hf
          refine va_iald hx hb hK hP 1 0 rfl rfl hi5 dX5_nextToken_43 ?_
          refine lv_bipush (v := (10 : Int32)) hx hb dX5_nextToken_44 (by decide) ?_
          refine lv_icmp_ne (tgt := 62) hx hb dX5_nextToken_46 (by decide) (fun c6 => ?_) (fun c6 => ?_)
          · have hf := ineg c6 hf
            exact w_X5_nextToken_62 X hK hA hW t_at t_number t_place t_sign hf _ _ hP hD hS _ (lv_sub hl [0] rfl)
          · have hf := ipos c6 hf
            refine lv_aload_n hx hb dX5_nextToken_49 rfl (lv_at hl 0 rfl) ?_
            refine lv_dup hx hb dX5_nextToken_50 rfl ?_
            refine va_get (D := D) (ci := 5) (v := .int t_at) (C := RX5) (T := TX5) (N := 17) hx hb hts in_X5_nextToken_X5 hown hK hP 0 rfl rfl 8 (by decide) (hts (.fieldLink RX5 37 "DivisionHall$Reader" "at" "I") (by decide +kernel)) (fun _ h9 => h9) rfl dX5_nextToken_51 ?_
            refine lv_iconst (v := (1 : Int32)) hx hb dX5_nextToken_54 (by decide) ?_
            refine lv_iadd hx hb dX5_nextToken_55 ?_
            refine va_put (D := D) (ci := 5) (v := .int (t_at + (1 : Int32))) (ty := .int) (C := RX5) (T := TX5) (N := 17) hx hb hts in_X5_nextToken_X5 tyX5 tyX5_ok nmX5 hown hK hP hD hS 0 rfl rfl 8 (by decide) (hts (.fieldLink RX5 37 "DivisionHall$Reader" "at" "I") (by decide +kernel)) (fun _ h9 => h9) rfl (by decide +kernel) rfl rfl (Nat.le_of_ble_eq_true rfl) dX5_nextToken_56 (fun H locs hP hD hS => ?_)
            have hP : va_P D vwCl (wd_X5_nextToken cI cZ cR a_t a_t_text a_t_code a_t_waiting t_length t_codes t_waits t_fault t_faultPlace (t_at + (1 : Int32)) t_place t_sign t_number t_state t_name t_compared t_open t_parentheses t_text_r) H := hP
            have hD : va_D A (wd_X5_nextToken cI cZ cR a_t a_t_text a_t_code a_t_waiting t_length t_codes t_waits t_fault t_faultPlace (t_at + (1 : Int32)) t_place t_sign t_number t_state t_name t_compared t_open t_parentheses t_text_r) := hD
            refine lv_goto (tgt := 0) hx hb dX5_nextToken_59 (by decide) ?_
            exact ih (t_at + (1 : Int32)) t_number t_place t_sign hf _ _ hP hD hS _ (lv_sub hl [0] rfl)
set_option maxHeartbeats 4000000 in
set_option maxRecDepth 100000 in
theorem c_X5_nextToken (l : Launch) (adK adV : Nat → Nat) (D : va_G) (cI cZ cR : ClassId) {a_t a_t_text a_t_code a_t_waiting : Nat} {t_length : Int32} {t_codes : Int32} {t_waits : Int32} {t_fault : Int32} {t_faultPlace : Int32} {t_at : Int32} {t_place : Int32} {t_sign : Int32} {t_number : Int32} {t_state : Int32} {t_name : Int32} {t_compared : Int32} {t_open : Int32} {t_parentheses : Int32} {t_text_r : Nat → Int32} {sz : Nat} {out : Int32 × Int32 × Int32 × Int32} (hf : F_X5_nextToken t_at t_length t_number t_place t_sign t_text_r = some out) : CVS l yX5_nextToken wsX5_nextToken ({ frames := 6, cells := 0, slots := 0, locals := 127 } : Room) adK adV D cI cZ cR [.ref a_t] (wd_X5_nextToken cI cZ cR a_t a_t_text a_t_code a_t_waiting t_length t_codes t_waits t_fault t_faultPlace t_at t_place t_sign t_number t_state t_name t_compared t_open t_parentheses t_text_r) sz (wd_X5_nextToken cI cZ cR a_t a_t_text a_t_code a_t_waiting t_length t_codes t_waits t_fault t_faultPlace (out.1) (out.2.2.1) (out.2.2.2) (out.2.1) t_state t_name t_compared t_open t_parentheses t_text_r) := by
  refine met_ofS (Qf := fun A => qv D cI cZ cR A (wd_X5_nextToken cI cZ cR a_t a_t_text a_t_code a_t_waiting t_length t_codes t_waits t_fault t_faultPlace (out.1) (out.2.2.1) (out.2.2.2) (out.2.1) t_state t_name t_compared t_open t_parentheses t_text_r)) RX5 (by decide +kernel) rfl rfl (Nat.le_of_ble_eq_true rfl) ?_
  intro p e s m below meth c A X hK hA hW hP hD hS ls hl
  have hl : lv_has ls 1 [(0, .ref a_t)] := hl
  obtain ⟨hx, hb, hml, hr, hown, hts, hlocks, hN⟩ := id X
  unfold F_X5_nextToken at hf
  exact w_X5_nextToken_0 X hK hA hW _ t_at t_number t_place t_sign hf _ _ hP hD hS _ (lv_sub hl [0] rfl)

abbrev wd_X5_read (cI cZ cR : ClassId) (a_t a_t_text a_t_code a_t_waiting : Nat) (t_length t_codes t_waits t_fault t_faultPlace t_at t_place t_sign t_number t_state t_name t_compared t_open t_parentheses : Int32) (t_code_r : Nat → Int32) (t_text_r : Nat → Int32) (t_waiting_r : Nat → Int32) : va_W := [(a_t, oB 5 [.ref a_t_text, .ref a_t_code, .ref a_t_waiting, .int t_length, .int t_codes, .int t_waits, .int t_fault, .int t_faultPlace, .int t_at, .int t_place, .int t_sign, .int t_number, .int t_state, .int t_name, .int t_compared, .int t_open, .int t_parentheses]), (a_t_code, aI cI 400 t_code_r), (a_t_text, aI cI 400 t_text_r), (a_t_waiting, aI cI 40 t_waiting_r)]
set_option maxRecDepth 100000 in
theorem in_X5_read_X5 : ∀ w ∈ wsX50, w ∈ wsX5_read := by decide +kernel
set_option maxHeartbeats 4000000 in
set_option maxRecDepth 100000 in
theorem w_X5_read_48 {p : Program} {l : Launch} {e : Env} {s : State} {m : MethodId} {args : Array Value} {below : List Frame} {meth : Method} {c : Code} {D : va_G} {cI cZ cR : ClassId} {A : Nat → Prop} {adK adV : Nat → Nat} {a_t a_t_text a_t_code a_t_waiting : Nat} {t_length : Int32} {t_text_r : Nat → Int32} {out : Int32 × Int32 × Int32 × Int32 × Int32 × Int32 × Int32 × Int32 × Int32 × Int32 × Int32 × Int32 × Int32 × (Nat → Int32) × (Nat → Int32)} (X : cx p s m args meth c cX5_read 2 none RX5 wsX5_read) (hK : va_K D vwCl (ty3 cI cZ cR) s) (hA : ∀ q, s.heap.size ≤ q → A q) (hW : SW adK adV A s s.heap) : ∀ (n : Nat) (x1 : Int32) (t_at : Int32) (t_codes : Int32) (t_compared : Int32) (t_fault : Int32) (t_faultPlace : Int32) (t_name : Int32) (t_number : Int32) (t_open : Int32) (t_parentheses : Int32) (t_place : Int32) (t_sign : Int32) (t_state : Int32) (t_waits : Int32) (t_code_r : Nat → Int32) (t_waiting_r : Nat → Int32), F_X5_read_48 t_length t_text_r n x1 t_at t_codes t_compared t_fault t_faultPlace t_name t_number t_open t_parentheses t_place t_sign t_state t_waits t_code_r t_waiting_r = some out → ∀ (H : Heap) (locs : List Loc), va_P D vwCl (wd_X5_read cI cZ cR a_t a_t_text a_t_code a_t_waiting t_length t_codes t_waits t_fault t_faultPlace t_at t_place t_sign t_number t_state t_name t_compared t_open t_parentheses t_code_r t_text_r t_waiting_r) H → va_D A (wd_X5_read cI cZ cR a_t a_t_text a_t_code a_t_waiting t_length t_codes t_waits t_fault t_faultPlace t_at t_place t_sign t_number t_state t_name t_compared t_open t_parentheses t_code_r t_text_r t_waiting_r) → va_S A s.heap H locs → ∀ (ls : Array Slot), lv_has ls 2 [(0, .ref a_t), (1, .int x1)] → W p l e (headSpec wsX5_read ({ frames := 7, cells := 0, slots := 0, locals := 147 } : Room)).room s m args below meth c H locs 0 0 (MQ below (qv D cI cZ cR A (wd_X5_read cI cZ cR a_t a_t_text a_t_code a_t_waiting t_length (out.2.1) (out.2.2.2.2.2.2.2.2.2.2.2.2.1) (out.2.2.2.1) (out.2.2.2.2.1) (out.1) (out.2.2.2.2.2.2.2.2.2.1) (out.2.2.2.2.2.2.2.2.2.2.1) (out.2.2.2.2.2.2.1) (out.2.2.2.2.2.2.2.2.2.2.2.1) (out.2.2.2.2.2.1) (out.2.2.1) (out.2.2.2.2.2.2.2.1) (out.2.2.2.2.2.2.2.2.1) (out.2.2.2.2.2.2.2.2.2.2.2.2.2.1) t_text_r (out.2.2.2.2.2.2.2.2.2.2.2.2.2.2))) args s 0 0 A) (F0 m 48 ls []) := by
  obtain ⟨hx, hb, hml, hr, hown, hts, hlocks, hN⟩ := id X
  intro n
  induction n with
  | zero =>
    intro x1 t_at t_codes t_compared t_fault t_faultPlace t_name t_number t_open t_parentheses t_place t_sign t_state t_waits t_code_r t_waiting_r hf
    cases (show (none : Option (Int32 × Int32 × Int32 × Int32 × Int32 × Int32 × Int32 × Int32 × Int32 × Int32 × Int32 × Int32 × Int32 × (Nat → Int32) × (Nat → Int32))) = some out from hf)
  | succ n ih =>
    intro x1 t_at t_codes t_compared t_fault t_faultPlace t_name t_number t_open t_parentheses t_place t_sign t_state t_waits t_code_r t_waiting_r hf H locs hP hD hS ls hl
    rw [F_X5_read_48] at hf
    refine lv_iload_n hx hb dX5_read_48 rfl (lv_at hl 1 rfl) ?_
    refine lv_sipush (v := (400 : Int32)) hx hb dX5_read_49 (by decide) ?_
    refine lv_icmp_gt (tgt := 78) hx hb dX5_read_52 (by decide) (fun c1 => ?_) (fun c1 => ?_)
    · have hf := ipos c1 hf
      cases hf
      exact retv X hK hP hD hS dX5_read_78
    · have hf := ineg c1 hf
      refine lv_aload_n hx hb dX5_read_55 rfl (lv_at hl 0 rfl) ?_
      refine va_get (D := D) (ci := 5) (v := .int t_state) (C := RX5) (T := TX5) (N := 17) hx hb hts in_X5_read_X5 hown hK hP 0 rfl rfl 12 (by decide) (hts (.fieldLink RX5 50 "DivisionHall$Reader" "state" "I") (by decide +kernel)) (fun _ h9 => h9) rfl dX5_read_56 ?_
      refine lv_bipush (v := (8 : Int32)) hx hb dX5_read_59 (by decide) ?_
      refine lv_icmp_eq (tgt := 78) hx hb dX5_read_61 (by decide) (fun c2 => ?_) (fun c2 => ?_)
      · have hf := ipos c2 hf
        cases hf
        exact retv X hK hP hD hS dX5_read_78
      · have hf := ineg c2 hf
        refine lv_aload_n hx hb dX5_read_64 rfl (lv_at hl 0 rfl) ?_
        obtain ⟨r3, hr4, hf⟩ := bnd hf
        refine wcallv (D := D) (cI := cI) (cZ := cZ) (cR := cR) (wc := (wd_X5_nextToken cI cZ cR a_t a_t_text a_t_code a_t_waiting t_length t_codes t_waits t_fault t_faultPlace t_at t_place t_sign t_number t_state t_name t_compared t_open t_parentheses t_text_r)) (w' := (wd_X5_nextToken cI cZ cR a_t a_t_text a_t_code a_t_waiting t_length t_codes t_waits t_fault t_faultPlace (r3.1) (r3.2.2.1) (r3.2.2.2) (r3.2.1) t_state t_name t_compared t_open t_parentheses t_text_r)) [0, 2] hP hD hS hA rfl rfl rfl (rnVS (As := []) (ci := 5) (q0 := 0) X [0, 2] hK hP hD rfl rfl hW hS hA rfl rfl (c_X5_nextToken l adK adV D cI cZ cR hr4) (cwV 0 hts gX5_read_X5_nextToken rfl rfl rfl (by decide +kernel) ⟨Nat.le_of_ble_eq_true rfl, Nat.le_of_ble_eq_true rfl⟩) rfl hl.1 rfl (Nat.le_of_ble_eq_true rfl) dX5_read_65) (fun H locs hP hD hS => ?_)
        have hP : va_P D vwCl (wd_X5_read cI cZ cR a_t a_t_text a_t_code a_t_waiting t_length t_codes t_waits t_fault t_faultPlace (r3.1) (r3.2.2.1) (r3.2.2.2) (r3.2.1) t_state t_name t_compared t_open t_parentheses t_code_r t_text_r t_waiting_r) H := hP
        have hD : va_D A (wd_X5_read cI cZ cR a_t a_t_text a_t_code a_t_waiting t_length t_codes t_waits t_fault t_faultPlace (r3.1) (r3.2.2.1) (r3.2.2.2) (r3.2.1) t_state t_name t_compared t_open t_parentheses t_code_r t_text_r t_waiting_r) := hD
        refine lv_aload_n hx hb dX5_read_68 rfl (lv_at hl 0 rfl) ?_
        obtain ⟨r5, hr6, hf⟩ := bnd hf
        refine wcallv (D := D) (cI := cI) (cZ := cZ) (cR := cR) (wc := (wd_X5_takeToken cI cZ cR a_t a_t_text a_t_code a_t_waiting t_length t_codes t_waits t_fault t_faultPlace (r3.1) (r3.2.2.1) (r3.2.2.2) (r3.2.1) t_state t_name t_compared t_open t_parentheses t_code_r t_waiting_r)) (w' := (wd_X5_takeToken cI cZ cR a_t a_t_text a_t_code a_t_waiting t_length (r5.1) (r5.2.2.2.2.2.2.2.2.1) (r5.2.2.1) (r5.2.2.2.1) (r3.1) (r3.2.2.1) (r3.2.2.2) (r3.2.1) (r5.2.2.2.2.2.2.2.1) (r5.2.2.2.2.1) (r5.2.1) (r5.2.2.2.2.2.1) (r5.2.2.2.2.2.2.1) (r5.2.2.2.2.2.2.2.2.2.1) (r5.2.2.2.2.2.2.2.2.2.2))) [0, 1, 3] hP hD hS hA rfl rfl rfl (rnV (As := []) (ci := 5) (q0 := 0) X [0, 1, 3] hK hP hD rfl rfl rfl rfl (c_X5_takeToken l D cI cZ cR hr6) (cwV 0 hts gX5_read_X5_takeToken rfl rfl rfl (by decide +kernel) ⟨Nat.le_of_ble_eq_true rfl, Nat.le_of_ble_eq_true rfl⟩) rfl hl.1 rfl (Nat.le_of_ble_eq_true rfl) dX5_read_69) (fun H locs hP hD hS => ?_)
        have hP : va_P D vwCl (wd_X5_read cI cZ cR a_t a_t_text a_t_code a_t_waiting t_length (r5.1) (r5.2.2.2.2.2.2.2.2.1) (r5.2.2.1) (r5.2.2.2.1) (r3.1) (r3.2.2.1) (r3.2.2.2) (r3.2.1) (r5.2.2.2.2.2.2.2.1) (r5.2.2.2.2.1) (r5.2.1) (r5.2.2.2.2.2.1) (r5.2.2.2.2.2.2.1) (r5.2.2.2.2.2.2.2.2.2.1) t_text_r (r5.2.2.2.2.2.2.2.2.2.2)) H := hP
        have hD : va_D A (wd_X5_read cI cZ cR a_t a_t_text a_t_code a_t_waiting t_length (r5.1) (r5.2.2.2.2.2.2.2.2.1) (r5.2.2.1) (r5.2.2.2.1) (r3.1) (r3.2.2.1) (r3.2.2.2) (r3.2.1) (r5.2.2.2.2.2.2.2.1) (r5.2.2.2.2.1) (r5.2.1) (r5.2.2.2.2.2.1) (r5.2.2.2.2.2.2.1) (r5.2.2.2.2.2.2.2.2.2.1) t_text_r (r5.2.2.2.2.2.2.2.2.2.2)) := hD
        refine lv_iinc (v := (x1 + (1 : Int32))) (lv' := [(1, .int (x1 + (1 : Int32))), (0, .ref a_t)]) hx hb dX5_read_72 hl (k := 1) rfl rfl (by decide) rfl (fun ls hl => ?_)
        refine lv_goto (tgt := 48) hx hb dX5_read_75 (by decide) ?_
        exact ih (x1 + (1 : Int32)) (r3.1) (r5.1) (r5.2.1) (r5.2.2.1) (r5.2.2.2.1) (r5.2.2.2.2.1) (r3.2.1) (r5.2.2.2.2.2.1) (r5.2.2.2.2.2.2.1) (r3.2.2.1) (r3.2.2.2) (r5.2.2.2.2.2.2.2.1) (r5.2.2.2.2.2.2.2.2.1) (r5.2.2.2.2.2.2.2.2.2.1) (r5.2.2.2.2.2.2.2.2.2.2) hf _ _ hP hD hS _ (lv_sub hl [1, 0] rfl)
set_option maxHeartbeats 4000000 in
set_option maxRecDepth 100000 in
theorem c_X5_read (l : Launch) (adK adV : Nat → Nat) (D : va_G) (cI cZ cR : ClassId) {a_t a_t_text a_t_code a_t_waiting : Nat} {t_length : Int32} {t_codes : Int32} {t_waits : Int32} {t_fault : Int32} {t_faultPlace : Int32} {t_at : Int32} {t_place : Int32} {t_sign : Int32} {t_number : Int32} {t_state : Int32} {t_name : Int32} {t_compared : Int32} {t_open : Int32} {t_parentheses : Int32} {t_code_r : Nat → Int32} {t_text_r : Nat → Int32} {t_waiting_r : Nat → Int32} {sz : Nat} {out : Int32 × Int32 × Int32 × Int32 × Int32 × Int32 × Int32 × Int32 × Int32 × Int32 × Int32 × Int32 × Int32 × (Nat → Int32) × (Nat → Int32)} (hf : F_X5_read t_at t_codes t_compared t_fault t_faultPlace t_length t_name t_number t_open t_parentheses t_place t_sign t_state t_waits t_code_r t_text_r t_waiting_r = some out) : CVS l yX5_read wsX5_read ({ frames := 7, cells := 0, slots := 0, locals := 147 } : Room) adK adV D cI cZ cR [.ref a_t] (wd_X5_read cI cZ cR a_t a_t_text a_t_code a_t_waiting t_length t_codes t_waits t_fault t_faultPlace t_at t_place t_sign t_number t_state t_name t_compared t_open t_parentheses t_code_r t_text_r t_waiting_r) sz (wd_X5_read cI cZ cR a_t a_t_text a_t_code a_t_waiting t_length (out.2.1) (out.2.2.2.2.2.2.2.2.2.2.2.2.1) (out.2.2.2.1) (out.2.2.2.2.1) (out.1) (out.2.2.2.2.2.2.2.2.2.1) (out.2.2.2.2.2.2.2.2.2.2.1) (out.2.2.2.2.2.2.1) (out.2.2.2.2.2.2.2.2.2.2.2.1) (out.2.2.2.2.2.1) (out.2.2.1) (out.2.2.2.2.2.2.2.1) (out.2.2.2.2.2.2.2.2.1) (out.2.2.2.2.2.2.2.2.2.2.2.2.2.1) t_text_r (out.2.2.2.2.2.2.2.2.2.2.2.2.2.2)) := by
  refine met_ofS (Qf := fun A => qv D cI cZ cR A (wd_X5_read cI cZ cR a_t a_t_text a_t_code a_t_waiting t_length (out.2.1) (out.2.2.2.2.2.2.2.2.2.2.2.2.1) (out.2.2.2.1) (out.2.2.2.2.1) (out.1) (out.2.2.2.2.2.2.2.2.2.1) (out.2.2.2.2.2.2.2.2.2.2.1) (out.2.2.2.2.2.2.1) (out.2.2.2.2.2.2.2.2.2.2.2.1) (out.2.2.2.2.2.1) (out.2.2.1) (out.2.2.2.2.2.2.2.1) (out.2.2.2.2.2.2.2.2.1) (out.2.2.2.2.2.2.2.2.2.2.2.2.2.1) t_text_r (out.2.2.2.2.2.2.2.2.2.2.2.2.2.2))) RX5 (by decide +kernel) rfl rfl (Nat.le_of_ble_eq_true rfl) ?_
  intro p e s m below meth c A X hK hA hW hP hD hS ls hl
  have hl : lv_has ls 2 [(0, .ref a_t)] := hl
  obtain ⟨hx, hb, hml, hr, hown, hts, hlocks, hN⟩ := id X
  unfold F_X5_read at hf
  refine lv_aload_n hx hb dX5_read_0 rfl (lv_at hl 0 rfl) ?_
  refine lv_iconst (v := (0 : Int32)) hx hb dX5_read_1 (by decide) ?_
  refine va_put (D := D) (ci := 5) (v := .int (0 : Int32)) (ty := .int) (C := RX5) (T := TX5) (N := 17) hx hb hts in_X5_read_X5 tyX5 tyX5_ok nmX5 hown hK hP hD hS 0 rfl rfl 4 (by decide) (hts (.fieldLink RX5 28 "DivisionHall$Reader" "codes" "I") (by decide +kernel)) (fun _ h9 => h9) rfl (by decide +kernel) rfl rfl (Nat.le_of_ble_eq_true rfl) dX5_read_2 (fun H locs hP hD hS => ?_)
  have hP : va_P D vwCl (wd_X5_read cI cZ cR a_t a_t_text a_t_code a_t_waiting t_length (0 : Int32) t_waits t_fault t_faultPlace t_at t_place t_sign t_number t_state t_name t_compared t_open t_parentheses t_code_r t_text_r t_waiting_r) H := hP
  have hD : va_D A (wd_X5_read cI cZ cR a_t a_t_text a_t_code a_t_waiting t_length (0 : Int32) t_waits t_fault t_faultPlace t_at t_place t_sign t_number t_state t_name t_compared t_open t_parentheses t_code_r t_text_r t_waiting_r) := hD
  refine lv_aload_n hx hb dX5_read_5 rfl (lv_at hl 0 rfl) ?_
  refine lv_iconst (v := (0 : Int32)) hx hb dX5_read_6 (by decide) ?_
  refine va_put (D := D) (ci := 5) (v := .int (0 : Int32)) (ty := .int) (C := RX5) (T := TX5) (N := 17) hx hb hts in_X5_read_X5 tyX5 tyX5_ok nmX5 hown hK hP hD hS 0 rfl rfl 5 (by decide) (hts (.fieldLink RX5 31 "DivisionHall$Reader" "waits" "I") (by decide +kernel)) (fun _ h9 => h9) rfl (by decide +kernel) rfl rfl (Nat.le_of_ble_eq_true rfl) dX5_read_7 (fun H locs hP hD hS => ?_)
  have hP : va_P D vwCl (wd_X5_read cI cZ cR a_t a_t_text a_t_code a_t_waiting t_length (0 : Int32) (0 : Int32) t_fault t_faultPlace t_at t_place t_sign t_number t_state t_name t_compared t_open t_parentheses t_code_r t_text_r t_waiting_r) H := hP
  have hD : va_D A (wd_X5_read cI cZ cR a_t a_t_text a_t_code a_t_waiting t_length (0 : Int32) (0 : Int32) t_fault t_faultPlace t_at t_place t_sign t_number t_state t_name t_compared t_open t_parentheses t_code_r t_text_r t_waiting_r) := hD
  refine lv_aload_n hx hb dX5_read_10 rfl (lv_at hl 0 rfl) ?_
  refine lv_iconst (v := (0 : Int32)) hx hb dX5_read_11 (by decide) ?_
  refine va_put (D := D) (ci := 5) (v := .int (0 : Int32)) (ty := .int) (C := RX5) (T := TX5) (N := 17) hx hb hts in_X5_read_X5 tyX5 tyX5_ok nmX5 hown hK hP hD hS 0 rfl rfl 6 (by decide) (hts (.fieldLink RX5 34 "DivisionHall$Reader" "fault" "I") (by decide +kernel)) (fun _ h9 => h9) rfl (by decide +kernel) rfl rfl (Nat.le_of_ble_eq_true rfl) dX5_read_12 (fun H locs hP hD hS => ?_)
  have hP : va_P D vwCl (wd_X5_read cI cZ cR a_t a_t_text a_t_code a_t_waiting t_length (0 : Int32) (0 : Int32) (0 : Int32) t_faultPlace t_at t_place t_sign t_number t_state t_name t_compared t_open t_parentheses t_code_r t_text_r t_waiting_r) H := hP
  have hD : va_D A (wd_X5_read cI cZ cR a_t a_t_text a_t_code a_t_waiting t_length (0 : Int32) (0 : Int32) (0 : Int32) t_faultPlace t_at t_place t_sign t_number t_state t_name t_compared t_open t_parentheses t_code_r t_text_r t_waiting_r) := hD
  refine lv_aload_n hx hb dX5_read_15 rfl (lv_at hl 0 rfl) ?_
  refine lv_iconst (v := (-1 : Int32)) hx hb dX5_read_16 (by decide) ?_
  refine va_put (D := D) (ci := 5) (v := .int (-1 : Int32)) (ty := .int) (C := RX5) (T := TX5) (N := 17) hx hb hts in_X5_read_X5 tyX5 tyX5_ok nmX5 hown hK hP hD hS 0 rfl rfl 7 (by decide) (hts (.fieldLink RX5 21 "DivisionHall$Reader" "faultPlace" "I") (by decide +kernel)) (fun _ h9 => h9) rfl (by decide +kernel) rfl rfl (Nat.le_of_ble_eq_true rfl) dX5_read_17 (fun H locs hP hD hS => ?_)
  have hP : va_P D vwCl (wd_X5_read cI cZ cR a_t a_t_text a_t_code a_t_waiting t_length (0 : Int32) (0 : Int32) (0 : Int32) (-1 : Int32) t_at t_place t_sign t_number t_state t_name t_compared t_open t_parentheses t_code_r t_text_r t_waiting_r) H := hP
  have hD : va_D A (wd_X5_read cI cZ cR a_t a_t_text a_t_code a_t_waiting t_length (0 : Int32) (0 : Int32) (0 : Int32) (-1 : Int32) t_at t_place t_sign t_number t_state t_name t_compared t_open t_parentheses t_code_r t_text_r t_waiting_r) := hD
  refine lv_aload_n hx hb dX5_read_20 rfl (lv_at hl 0 rfl) ?_
  refine lv_iconst (v := (0 : Int32)) hx hb dX5_read_21 (by decide) ?_
  refine va_put (D := D) (ci := 5) (v := .int (0 : Int32)) (ty := .int) (C := RX5) (T := TX5) (N := 17) hx hb hts in_X5_read_X5 tyX5 tyX5_ok nmX5 hown hK hP hD hS 0 rfl rfl 8 (by decide) (hts (.fieldLink RX5 37 "DivisionHall$Reader" "at" "I") (by decide +kernel)) (fun _ h9 => h9) rfl (by decide +kernel) rfl rfl (Nat.le_of_ble_eq_true rfl) dX5_read_22 (fun H locs hP hD hS => ?_)
  have hP : va_P D vwCl (wd_X5_read cI cZ cR a_t a_t_text a_t_code a_t_waiting t_length (0 : Int32) (0 : Int32) (0 : Int32) (-1 : Int32) (0 : Int32) t_place t_sign t_number t_state t_name t_compared t_open t_parentheses t_code_r t_text_r t_waiting_r) H := hP
  have hD : va_D A (wd_X5_read cI cZ cR a_t a_t_text a_t_code a_t_waiting t_length (0 : Int32) (0 : Int32) (0 : Int32) (-1 : Int32) (0 : Int32) t_place t_sign t_number t_state t_name t_compared t_open t_parentheses t_code_r t_text_r t_waiting_r) := hD
  refine lv_aload_n hx hb dX5_read_25 rfl (lv_at hl 0 rfl) ?_
  refine lv_iconst (v := (0 : Int32)) hx hb dX5_read_26 (by decide) ?_
  refine va_put (D := D) (ci := 5) (v := .int (0 : Int32)) (ty := .boolean) (C := RX5) (T := TX5) (N := 17) hx hb hts in_X5_read_X5 tyX5 tyX5_ok nmX5 hown hK hP hD hS 0 rfl rfl 14 (by decide) (hts (.fieldLink RX5 40 "DivisionHall$Reader" "compared" "Z") (by decide +kernel)) (fun _ h9 => h9) rfl (by decide +kernel) rfl rfl (Nat.le_of_ble_eq_true rfl) dX5_read_27 (fun H locs hP hD hS => ?_)
  have hP : va_P D vwCl (wd_X5_read cI cZ cR a_t a_t_text a_t_code a_t_waiting t_length (0 : Int32) (0 : Int32) (0 : Int32) (-1 : Int32) (0 : Int32) t_place t_sign t_number t_state t_name (0 : Int32) t_open t_parentheses t_code_r t_text_r t_waiting_r) H := hP
  have hD : va_D A (wd_X5_read cI cZ cR a_t a_t_text a_t_code a_t_waiting t_length (0 : Int32) (0 : Int32) (0 : Int32) (-1 : Int32) (0 : Int32) t_place t_sign t_number t_state t_name (0 : Int32) t_open t_parentheses t_code_r t_text_r t_waiting_r) := hD
  refine lv_aload_n hx hb dX5_read_30 rfl (lv_at hl 0 rfl) ?_
  refine lv_iconst (v := (0 : Int32)) hx hb dX5_read_31 (by decide) ?_
  refine va_put (D := D) (ci := 5) (v := .int (0 : Int32)) (ty := .int) (C := RX5) (T := TX5) (N := 17) hx hb hts in_X5_read_X5 tyX5 tyX5_ok nmX5 hown hK hP hD hS 0 rfl rfl 15 (by decide) (hts (.fieldLink RX5 44 "DivisionHall$Reader" "open" "I") (by decide +kernel)) (fun _ h9 => h9) rfl (by decide +kernel) rfl rfl (Nat.le_of_ble_eq_true rfl) dX5_read_32 (fun H locs hP hD hS => ?_)
  have hP : va_P D vwCl (wd_X5_read cI cZ cR a_t a_t_text a_t_code a_t_waiting t_length (0 : Int32) (0 : Int32) (0 : Int32) (-1 : Int32) (0 : Int32) t_place t_sign t_number t_state t_name (0 : Int32) (0 : Int32) t_parentheses t_code_r t_text_r t_waiting_r) H := hP
  have hD : va_D A (wd_X5_read cI cZ cR a_t a_t_text a_t_code a_t_waiting t_length (0 : Int32) (0 : Int32) (0 : Int32) (-1 : Int32) (0 : Int32) t_place t_sign t_number t_state t_name (0 : Int32) (0 : Int32) t_parentheses t_code_r t_text_r t_waiting_r) := hD
  refine lv_aload_n hx hb dX5_read_35 rfl (lv_at hl 0 rfl) ?_
  refine lv_iconst (v := (0 : Int32)) hx hb dX5_read_36 (by decide) ?_
  refine va_put (D := D) (ci := 5) (v := .int (0 : Int32)) (ty := .int) (C := RX5) (T := TX5) (N := 17) hx hb hts in_X5_read_X5 tyX5 tyX5_ok nmX5 hown hK hP hD hS 0 rfl rfl 16 (by decide) (hts (.fieldLink RX5 47 "DivisionHall$Reader" "parentheses" "I") (by decide +kernel)) (fun _ h9 => h9) rfl (by decide +kernel) rfl rfl (Nat.le_of_ble_eq_true rfl) dX5_read_37 (fun H locs hP hD hS => ?_)
  have hP : va_P D vwCl (wd_X5_read cI cZ cR a_t a_t_text a_t_code a_t_waiting t_length (0 : Int32) (0 : Int32) (0 : Int32) (-1 : Int32) (0 : Int32) t_place t_sign t_number t_state t_name (0 : Int32) (0 : Int32) (0 : Int32) t_code_r t_text_r t_waiting_r) H := hP
  have hD : va_D A (wd_X5_read cI cZ cR a_t a_t_text a_t_code a_t_waiting t_length (0 : Int32) (0 : Int32) (0 : Int32) (-1 : Int32) (0 : Int32) t_place t_sign t_number t_state t_name (0 : Int32) (0 : Int32) (0 : Int32) t_code_r t_text_r t_waiting_r) := hD
  refine lv_aload_n hx hb dX5_read_40 rfl (lv_at hl 0 rfl) ?_
  refine lv_bipush (v := (7 : Int32)) hx hb dX5_read_41 (by decide) ?_
  refine va_put (D := D) (ci := 5) (v := .int (7 : Int32)) (ty := .int) (C := RX5) (T := TX5) (N := 17) hx hb hts in_X5_read_X5 tyX5 tyX5_ok nmX5 hown hK hP hD hS 0 rfl rfl 12 (by decide) (hts (.fieldLink RX5 50 "DivisionHall$Reader" "state" "I") (by decide +kernel)) (fun _ h9 => h9) rfl (by decide +kernel) rfl rfl (Nat.le_of_ble_eq_true rfl) dX5_read_43 (fun H locs hP hD hS => ?_)
  have hP : va_P D vwCl (wd_X5_read cI cZ cR a_t a_t_text a_t_code a_t_waiting t_length (0 : Int32) (0 : Int32) (0 : Int32) (-1 : Int32) (0 : Int32) t_place t_sign t_number (7 : Int32) t_name (0 : Int32) (0 : Int32) (0 : Int32) t_code_r t_text_r t_waiting_r) H := hP
  have hD : va_D A (wd_X5_read cI cZ cR a_t a_t_text a_t_code a_t_waiting t_length (0 : Int32) (0 : Int32) (0 : Int32) (-1 : Int32) (0 : Int32) t_place t_sign t_number (7 : Int32) t_name (0 : Int32) (0 : Int32) (0 : Int32) t_code_r t_text_r t_waiting_r) := hD
  refine lv_iconst (v := (0 : Int32)) hx hb dX5_read_46 (by decide) ?_
  refine lv_istore_n (lv' := [(1, .int (0 : Int32)), (0, .ref a_t)]) hx hb dX5_read_47 rfl hl (by decide) rfl (fun ls hl => ?_)
  exact w_X5_read_48 X hK hA hW _ (0 : Int32) (0 : Int32) (0 : Int32) (0 : Int32) (0 : Int32) (-1 : Int32) t_name t_number (0 : Int32) (0 : Int32) t_place t_sign (7 : Int32) (0 : Int32) t_code_r t_waiting_r hf _ _ hP hD hS _ (lv_sub hl [1, 0] rfl)
