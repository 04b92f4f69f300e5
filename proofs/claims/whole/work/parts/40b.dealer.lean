abbrev wd_X0_dearest (cI cZ cR : ClassId) (a_t a_t_values a_t_weight a_t_choices a_t_chooser a_t_owner a_t_held a_t_pick a_t_gain : Nat) (t_count : Int32) (t_values_r : Nat → Int32) : va_W := [(a_t, oB 0 [.ref a_t_values, .ref a_t_weight, .ref a_t_choices, .ref a_t_chooser, .ref a_t_owner, .ref a_t_held, .ref a_t_pick, .ref a_t_gain, .int t_count]), (a_t_values, aI cI 48 t_values_r)]
set_option maxHeartbeats 4000000 in
set_option maxRecDepth 100000 in
theorem w_X0_dearest_5 {p : Program} {l : Launch} {e : Env} {s : State} {m : MethodId} {args : Array Value} {below : List Frame} {meth : Method} {c : Code} {D : va_G} {cI cZ cR : ClassId} {A : Nat → Prop} {a_t a_t_values a_t_weight a_t_choices a_t_chooser a_t_owner a_t_held a_t_pick a_t_gain : Nat} {t_count : Int32} {t_values_r : Nat → Int32} {x1 : Int32} {x2 : Int32} {out : Int32} (X : cx p s m args meth c cX0_dearest 5 (some .int) RX0 wsX0_dearest) (hK : va_K D vwCl (ty3 cI cZ cR) s) (hA : ∀ q, s.heap.size ≤ q → A q) : ∀ (n : Nat) (x3 : Int32) (x4 : Int32), F_X0_dearest_5 x1 x2 t_values_r n x3 x4 = some out → ∀ (H : Heap) (locs : List Loc), va_P D vwCl (wd_X0_dearest cI cZ cR a_t a_t_values a_t_weight a_t_choices a_t_chooser a_t_owner a_t_held a_t_pick a_t_gain t_count t_values_r) H → va_D A (wd_X0_dearest cI cZ cR a_t a_t_values a_t_weight a_t_choices a_t_chooser a_t_owner a_t_held a_t_pick a_t_gain t_count t_values_r) → va_S A s.heap H locs → ∀ (ls : Array Slot), lv_has ls 5 [(0, .ref a_t), (1, .int x1), (2, .int x2), (3, .int x3), (4, .int x4)] → W p l e (headSpec wsX0_dearest ({ frames := 2, cells := 0, slots := 0, locals := 43 } : Room)).room s m args below meth c H locs 0 0 (MQ below (qi D cI cZ cR A (out) (wd_X0_dearest cI cZ cR a_t a_t_values a_t_weight a_t_choices a_t_chooser a_t_owner a_t_held a_t_pick a_t_gain t_count t_values_r)) args s 0 0 A) (F0 m 5 ls []) := by
  obtain ⟨hx, hb, hml, hr, hown, hts, hlocks, hN⟩ := id X
  intro n
  induction n with
  | zero =>
    intro x3 x4 hf
    cases (show (none : Option (Int32)) = some out from hf)
  | succ n ih =>
    intro x3 x4 hf H locs hP hD hS ls hl
    rw [F_X0_dearest_5] at hf
    refine lv_iload hx hb dX0_dearest_5 (lv_at hl 4 rfl) ?_
    refine lv_bipush (v := (8 : Int32)) hx hb dX0_dearest_7 (by decide) ?_
    refine lv_icmp_ge (tgt := 51) hx hb dX0_dearest_9 (by decide) (fun c1 => ?_) (fun c1 => ?_)
    · have hf := ipos c1 hf
      refine lv_iload_n hx hb dX0_dearest_51 rfl (lv_at hl 3 rfl) ?_
      cases hf
      exact reti X hK hP hD hS dX0_dearest_52
    · have hf := ineg c1 hf
      refine lv_iload_n hx hb dX0_dearest_12 rfl (lv_at hl 1 rfl) ?_
      refine lv_iload hx hb dX0_dearest_13 (lv_at hl 4 rfl) ?_
      obtain ⟨r2, hr3, hf⟩ := bnd hf
      refine wcalli (D := D) (cI := cI) (cZ := cZ) (cR := cR) (wc := (wd_X11_has cI cZ cR)) (w' := (wd_X11_has cI cZ cR)) [] hP hD hS hA rfl rfl rfl (rnSN (As := [.int x1, .int x4]) X [] hK hP hD rfl rfl (c_X11_has l D cI cZ cR hr3) ⟨va_cnB (host := "DivisionHall") 2 hts ggX0_dearest_X11_has rfl rfl rfl (hN.2.1 ("DivisionHall$Dealer", 40, yX11_has, "DivisionHall") (by decide +kernel)) (hts (.initialized RX11) (by decide +kernel)) (by decide +kernel) ⟨Nat.le_of_ble_eq_true rfl, Nat.le_of_ble_eq_true rfl⟩, hts (.static yX11_has) (by decide +kernel), trivial⟩ rfl hl.1 rfl (Nat.le_of_ble_eq_true rfl) dX0_dearest_15) (fun H locs hP hD hS => ?_)
      have hP : va_P D vwCl (wd_X0_dearest cI cZ cR a_t a_t_values a_t_weight a_t_choices a_t_chooser a_t_owner a_t_held a_t_pick a_t_gain t_count t_values_r) H := hP
      have hD : va_D A (wd_X0_dearest cI cZ cR a_t a_t_values a_t_weight a_t_choices a_t_chooser a_t_owner a_t_held a_t_pick a_t_gain t_count t_values_r) := hD
      refine lv_if_eq (tgt := 45) hx hb dX0_dearest_18 (by decide) (fun c4 => ?_) (fun c4 => ?_)
      · have hf := ipos c4 hf
        refine lv_iinc (v := (x4 + (1 : Int32))) (lv' := [(4, .int (x4 + (1 : Int32))), (0, .ref a_t), (1, .int x1), (2, .int x2), (3, .int x3)]) hx hb dX0_dearest_45 hl (k := 4) rfl rfl (by decide) rfl (fun ls hl => ?_)
        refine lv_goto (tgt := 5) hx hb dX0_dearest_48 (by decide) ?_
        exact ih x3 (x4 + (1 : Int32)) hf _ _ hP hD hS _ (lv_sub hl [1, 2, 3, 4, 0] rfl)
      · have hf := ineg c4 hf
        refine lv_iload_n hx hb dX0_dearest_21 rfl (lv_at hl 3 rfl) ?_
        refine lv_iconst (v := (-1 : Int32)) hx hb dX0_dearest_22 (by decide) ?_
        refine lv_icmp_eq (tgt := 42) hx hb dX0_dearest_23 (by decide) (fun c5 => ?_) (fun c5 => ?_)
        · have hf := ipos c5 hf
          refine lv_iload hx hb dX0_dearest_42 (lv_at hl 4 rfl) ?_
          refine lv_istore_n (lv' := [(3, .int x4), (0, .ref a_t), (1, .int x1), (2, .int x2), (4, .int x4)]) hx hb dX0_dearest_44 rfl hl (by decide) rfl (fun ls hl => ?_)
          refine lv_iinc (v := (x4 + (1 : Int32))) (lv' := [(4, .int (x4 + (1 : Int32))), (3, .int x4), (0, .ref a_t), (1, .int x1), (2, .int x2)]) hx hb dX0_dearest_45 hl (k := 4) rfl rfl (by decide) rfl (fun ls hl => ?_)
          refine lv_goto (tgt := 5) hx hb dX0_dearest_48 (by decide) ?_
          exact ih x4 (x4 + (1 : Int32)) hf _ _ hP hD hS _ (lv_sub hl [2, 3, 4, 1, 0] rfl)
        · have hf := ineg c5 hf
          refine lv_aload_n hx hb dX0_dearest_26 rfl (lv_at hl 0 rfl) ?_
          refine lv_iload hx hb dX0_dearest_27 (lv_at hl 4 rfl) ?_
          refine lv_iload_n hx hb dX0_dearest_29 rfl (lv_at hl 2 rfl) ?_
          obtain ⟨r6, hr7, hf⟩ := bnd hf
          refine wcalliA (D := D) (cI := cI) (cZ := cZ) (cR := cR) (wc := (wd_X0_priceOf cI cZ cR a_t a_t_values a_t_weight a_t_choices a_t_chooser a_t_owner a_t_held a_t_pick a_t_gain t_count t_values_r)) (w' := (wd_X0_priceOf cI cZ cR a_t a_t_values a_t_weight a_t_choices a_t_chooser a_t_owner a_t_held a_t_pick a_t_gain t_count t_values_r)) hP hD hS hA rfl (rnVA (As := [.int x4, .int x2]) (ci := 0) (q0 := 0) X hK hP hD rfl rfl (c_X0_priceOf l D cI cZ cR hr7) (cwV 2 hts gX0_dearest_X0_priceOf rfl rfl rfl (by decide +kernel) ⟨Nat.le_of_ble_eq_true rfl, Nat.le_of_ble_eq_true rfl⟩) rfl hl.1 rfl (Nat.le_of_ble_eq_true rfl) dX0_dearest_30) (fun H locs hP hD hS => ?_)
          have hP : va_P D vwCl (wd_X0_dearest cI cZ cR a_t a_t_values a_t_weight a_t_choices a_t_chooser a_t_owner a_t_held a_t_pick a_t_gain t_count t_values_r) H := hP
          have hD : va_D A (wd_X0_dearest cI cZ cR a_t a_t_values a_t_weight a_t_choices a_t_chooser a_t_owner a_t_held a_t_pick a_t_gain t_count t_values_r) := hD
          refine lv_aload_n hx hb dX0_dearest_33 rfl (lv_at hl 0 rfl) ?_
          refine lv_iload_n hx hb dX0_dearest_34 rfl (lv_at hl 3 rfl) ?_
          refine lv_iload_n hx hb dX0_dearest_35 rfl (lv_at hl 2 rfl) ?_
          obtain ⟨r8, hr9, hf⟩ := bnd hf
          refine wcalliA (D := D) (cI := cI) (cZ := cZ) (cR := cR) (wc := (wd_X0_priceOf cI cZ cR a_t a_t_values a_t_weight a_t_choices a_t_chooser a_t_owner a_t_held a_t_pick a_t_gain t_count t_values_r)) (w' := (wd_X0_priceOf cI cZ cR a_t a_t_values a_t_weight a_t_choices a_t_chooser a_t_owner a_t_held a_t_pick a_t_gain t_count t_values_r)) hP hD hS hA rfl (rnVA (As := [.int x3, .int x2]) (ci := 0) (q0 := 0) X hK hP hD rfl rfl (c_X0_priceOf l D cI cZ cR hr9) (cwV 2 hts gX0_dearest_X0_priceOf rfl rfl rfl (by decide +kernel) ⟨Nat.le_of_ble_eq_true rfl, Nat.le_of_ble_eq_true rfl⟩) rfl hl.1 rfl (Nat.le_of_ble_eq_true rfl) dX0_dearest_36) (fun H locs hP hD hS => ?_)
          have hP : va_P D vwCl (wd_X0_dearest cI cZ cR a_t a_t_values a_t_weight a_t_choices a_t_chooser a_t_owner a_t_held a_t_pick a_t_gain t_count t_values_r) H := hP
          have hD : va_D A (wd_X0_dearest cI cZ cR a_t a_t_values a_t_weight a_t_choices a_t_chooser a_t_owner a_t_held a_t_pick a_t_gain t_count t_values_r) := hD
          refine lv_icmp_le (tgt := 45) hx hb dX0_dearest_39 (by decide) (fun c10 => ?_) (fun c10 => ?_)
          · have hf := ipos c10 hf
            refine lv_iinc (v := (x4 + (1 : Int32))) (lv' := [(4, .int (x4 + (1 : Int32))), (0, .ref a_t), (1, .int x1), (2, .int x2), (3, .int x3)]) hx hb dX0_dearest_45 hl (k := 4) rfl rfl (by decide) rfl (fun ls hl => ?_)
            refine lv_goto (tgt := 5) hx hb dX0_dearest_48 (by decide) ?_
            exact ih x3 (x4 + (1 : Int32)) hf _ _ hP hD hS _ (lv_sub hl [1, 2, 3, 4, 0] rfl)
          · have hf := ineg c10 hf
            refine lv_iload hx hb dX0_dearest_42 (lv_at hl 4 rfl) ?_
            refine lv_istore_n (lv' := [(3, .int x4), (0, .ref a_t), (1, .int x1), (2, .int x2), (4, .int x4)]) hx hb dX0_dearest_44 rfl hl (by decide) rfl (fun ls hl => ?_)
            refine lv_iinc (v := (x4 + (1 : Int32))) (lv' := [(4, .int (x4 + (1 : Int32))), (3, .int x4), (0, .ref a_t), (1, .int x1), (2, .int x2)]) hx hb dX0_dearest_45 hl (k := 4) rfl rfl (by decide) rfl (fun ls hl => ?_)
            refine lv_goto (tgt := 5) hx hb dX0_dearest_48 (by decide) ?_
            exact ih x4 (x4 + (1 : Int32)) hf _ _ hP hD hS _ (lv_sub hl [2, 3, 4, 1, 0] rfl)
set_option maxHeartbeats 4000000 in
set_option maxRecDepth 100000 in
theorem c_X0_dearest (l : Launch) (D : va_G) (cI cZ cR : ClassId) {a_t a_t_values a_t_weight a_t_choices a_t_chooser a_t_owner a_t_held a_t_pick a_t_gain : Nat} {t_count : Int32} {t_values_r : Nat → Int32} {x1 : Int32} {x2 : Int32} {sz : Nat} {out : Int32} (hf : F_X0_dearest x1 x2 t_values_r = some out) : CI l yX0_dearest wsX0_dearest ({ frames := 2, cells := 0, slots := 0, locals := 43 } : Room) D cI cZ cR [.ref a_t, .int x1, .int x2] (wd_X0_dearest cI cZ cR a_t a_t_values a_t_weight a_t_choices a_t_chooser a_t_owner a_t_held a_t_pick a_t_gain t_count t_values_r) sz (out) (wd_X0_dearest cI cZ cR a_t a_t_values a_t_weight a_t_choices a_t_chooser a_t_owner a_t_held a_t_pick a_t_gain t_count t_values_r) := by
  refine met_of (Qf := fun A => qi D cI cZ cR A (out) (wd_X0_dearest cI cZ cR a_t a_t_values a_t_weight a_t_choices a_t_chooser a_t_owner a_t_held a_t_pick a_t_gain t_count t_values_r)) RX0 (by decide +kernel) rfl rfl (Nat.le_of_ble_eq_true rfl) ?_
  intro p e s m below meth c A X hK hA hP hD hS ls hl
  have hl : lv_has ls 5 [(0, .ref a_t), (1, .int x1), (2, .int x2)] := hl
  obtain ⟨hx, hb, hml, hr, hown, hts, hlocks, hN⟩ := id X
  unfold F_X0_dearest at hf
  refine lv_iconst (v := (-1 : Int32)) hx hb dX0_dearest_0 (by decide) ?_
  refine lv_istore_n (lv' := [(3, .int (-1 : Int32)), (0, .ref a_t), (1, .int x1), (2, .int x2)]) hx hb dX0_dearest_1 rfl hl (by decide) rfl (fun ls hl => ?_)
  refine lv_iconst (v := (0 : Int32)) hx hb dX0_dearest_2 (by decide) ?_
  refine lv_istore (lv' := [(4, .int (0 : Int32)), (3, .int (-1 : Int32)), (0, .ref a_t), (1, .int x1), (2, .int x2)]) hx hb dX0_dearest_3 hl (by decide) rfl (fun ls hl => ?_)
  exact w_X0_dearest_5 X hK hA _ (-1 : Int32) (0 : Int32) hf _ _ hP hD hS _ (lv_sub hl [2, 3, 4, 1, 0] rfl)

abbrev wd_X0_gainOf (cI cZ cR : ClassId) (a_t a_t_values a_t_weight a_t_choices a_t_chooser a_t_owner a_t_held a_t_pick a_t_gain : Nat) (t_count : Int32) (t_gain_r : Nat → Int32) : va_W := [(a_t, oB 0 [.ref a_t_values, .ref a_t_weight, .ref a_t_choices, .ref a_t_chooser, .ref a_t_owner, .ref a_t_held, .ref a_t_pick, .ref a_t_gain, .int t_count]), (a_t_gain, aI cI 1536 t_gain_r)]
set_option maxRecDepth 100000 in
theorem in_X0_gainOf_X0 : ∀ w ∈ wsX00, w ∈ wsX0_gainOf := by decide +kernel
set_option maxHeartbeats 4000000 in
set_option maxRecDepth 100000 in
theorem c_X0_gainOf (l : Launch) (D : va_G) (cI cZ cR : ClassId) {a_t a_t_values a_t_weight a_t_choices a_t_chooser a_t_owner a_t_held a_t_pick a_t_gain : Nat} {t_count : Int32} {t_gain_r : Nat → Int32} {x1 : Int32} {x2 : Int32} {sz : Nat} {out : Int32} (hf : F_X0_gainOf x1 x2 t_gain_r = some out) : CI l yX0_gainOf wsX0_gainOf ({ frames := 1, cells := 0, slots := 0, locals := 21 } : Room) D cI cZ cR [.ref a_t, .int x1, .int x2] (wd_X0_gainOf cI cZ cR a_t a_t_values a_t_weight a_t_choices a_t_chooser a_t_owner a_t_held a_t_pick a_t_gain t_count t_gain_r) sz (out) (wd_X0_gainOf cI cZ cR a_t a_t_values a_t_weight a_t_choices a_t_chooser a_t_owner a_t_held a_t_pick a_t_gain t_count t_gain_r) := by
  refine met_of (Qf := fun A => qi D cI cZ cR A (out) (wd_X0_gainOf cI cZ cR a_t a_t_values a_t_weight a_t_choices a_t_chooser a_t_owner a_t_held a_t_pick a_t_gain t_count t_gain_r)) RX0 (by decide +kernel) rfl rfl (Nat.le_of_ble_eq_true rfl) ?_
  intro p e s m below meth c A X hK hA hP hD hS ls hl
  have hl : lv_has ls 3 [(0, .ref a_t), (1, .int x1), (2, .int x2)] := hl
  obtain ⟨hx, hb, hml, hr, hown, hts, hlocks, hN⟩ := id X
  unfold F_X0_gainOf at hf
  refine lv_iload_n hx hb dX0_gainOf_0 rfl (lv_at hl 1 rfl) ?_
  refine lv_sipush (v := (256 : Int32)) hx hb dX0_gainOf_1 (by decide) ?_
  obtain ⟨r1, hr2, hf⟩ := bnd hf
  refine wcalli (D := D) (cI := cI) (cZ := cZ) (cR := cR) (wc := (wd_X11_inside cI cZ cR)) (w' := (wd_X11_inside cI cZ cR)) [] hP hD hS hA rfl rfl rfl (rnSN (As := [.int x1, .int (256 : Int32)]) X [] hK hP hD rfl rfl (c_X11_inside l D cI cZ cR hr2) ⟨va_cnB (host := "DivisionHall") 2 hts ggX0_gainOf_X11_inside rfl rfl rfl (hN.2.1 ("DivisionHall$Dealer", 36, yX11_inside, "DivisionHall") (by decide +kernel)) (hts (.initialized RX11) (by decide +kernel)) (by decide +kernel) ⟨Nat.le_of_ble_eq_true rfl, Nat.le_of_ble_eq_true rfl⟩, hts (.static yX11_inside) (by decide +kernel), trivial⟩ rfl hl.1 rfl (Nat.le_of_ble_eq_true rfl) dX0_gainOf_4) (fun H locs hP hD hS => ?_)
  have hP : va_P D vwCl (wd_X0_gainOf cI cZ cR a_t a_t_values a_t_weight a_t_choices a_t_chooser a_t_owner a_t_held a_t_pick a_t_gain t_count t_gain_r) H := hP
  have hD : va_D A (wd_X0_gainOf cI cZ cR a_t a_t_values a_t_weight a_t_choices a_t_chooser a_t_owner a_t_held a_t_pick a_t_gain t_count t_gain_r) := hD
  refine lv_if_eq (tgt := 33) hx hb dX0_gainOf_7 (by decide) (fun c3 => ?_) (fun c3 => ?_)
  · have hf := ipos c3 hf
    refine lv_iconst (v := (0 : Int32)) hx hb dX0_gainOf_33 (by decide) ?_
    cases hf
    exact reti X hK hP hD hS dX0_gainOf_34
  · have hf := ineg c3 hf
    refine lv_iload_n hx hb dX0_gainOf_10 rfl (lv_at hl 2 rfl) ?_
    refine lv_bipush (v := (6 : Int32)) hx hb dX0_gainOf_11 (by decide) ?_
    obtain ⟨r4, hr5, hf⟩ := bnd hf
    refine wcalli (D := D) (cI := cI) (cZ := cZ) (cR := cR) (wc := (wd_X11_inside cI cZ cR)) (w' := (wd_X11_inside cI cZ cR)) [] hP hD hS hA rfl rfl rfl (rnSN (As := [.int x2, .int (6 : Int32)]) X [] hK hP hD rfl rfl (c_X11_inside l D cI cZ cR hr5) ⟨va_cnB (host := "DivisionHall") 2 hts ggX0_gainOf_X11_inside rfl rfl rfl (hN.2.1 ("DivisionHall$Dealer", 36, yX11_inside, "DivisionHall") (by decide +kernel)) (hts (.initialized RX11) (by decide +kernel)) (by decide +kernel) ⟨Nat.le_of_ble_eq_true rfl, Nat.le_of_ble_eq_true rfl⟩, hts (.static yX11_inside) (by decide +kernel), trivial⟩ rfl hl.1 rfl (Nat.le_of_ble_eq_true rfl) dX0_gainOf_13) (fun H locs hP hD hS => ?_)
    have hP : va_P D vwCl (wd_X0_gainOf cI cZ cR a_t a_t_values a_t_weight a_t_choices a_t_chooser a_t_owner a_t_held a_t_pick a_t_gain t_count t_gain_r) H := hP
    have hD : va_D A (wd_X0_gainOf cI cZ cR a_t a_t_values a_t_weight a_t_choices a_t_chooser a_t_owner a_t_held a_t_pick a_t_gain t_count t_gain_r) := hD
    refine lv_if_eq (tgt := 33) hx hb dX0_gainOf_16 (by decide) (fun c6 => ?_) (fun c6 => ?_)
    · have hf := ipos c6 hf
      refine lv_iconst (v := (0 : Int32)) hx hb dX0_gainOf_33 (by decide) ?_
      cases hf
      exact reti X hK hP hD hS dX0_gainOf_34
    · have hf := ineg c6 hf
      refine lv_aload_n hx hb dX0_gainOf_19 rfl (lv_at hl 0 rfl) ?_
      refine va_get (D := D) (ci := 0) (v := .ref a_t_gain) (C := RX0) (T := TX0) (N := 9) hx hb hts in_X0_gainOf_X0 hown hK hP 0 rfl rfl 7 (by decide) (hts (.fieldLink RX0 33 "DivisionHall$Dealer" "gain" "[I") (by decide +kernel)) (fun _ h9 => h9) rfl dX0_gainOf_20 ?_
      refine lv_iload_n hx hb dX0_gainOf_23 rfl (lv_at hl 1 rfl) ?_
      refine lv_bipush (v := (6 : Int32)) hx hb dX0_gainOf_24 (by decide) ?_
      refine lv_imul hx hb dX0_gainOf_26 ?_
      refine lv_iload_n hx hb dX0_gainOf_27 rfl (lv_at hl 2 rfl) ?_
      refine lv_iadd hx hb dX0_gainOf_28 ?_
      obtain ⟨hi7, hf⟩ := gin_s hf
      refine va_iald hx hb hK hP 1 0 rfl rfl hi7 dX0_gainOf_29 ?_
      refine lv_goto (tgt := 34) hx hb dX0_gainOf_30 (by decide) ?_
      cases hf
      exact reti X hK hP hD hS dX0_gainOf_34

abbrev wd_X0_foreseeOne (cI cZ cR : ClassId) (a_t a_t_values a_t_weight a_t_choices a_t_chooser a_t_owner a_t_held a_t_pick a_t_gain : Nat) (t_count : Int32) (t_gain_r : Nat → Int32) (t_pick_r : Nat → Int32) (t_values_r : Nat → Int32) : va_W := [(a_t, oB 0 [.ref a_t_values, .ref a_t_weight, .ref a_t_choices, .ref a_t_chooser, .ref a_t_owner, .ref a_t_held, .ref a_t_pick, .ref a_t_gain, .int t_count]), (a_t_gain, aI cI 1536 t_gain_r), (a_t_pick, aI cI 256 t_pick_r), (a_t_values, aI cI 48 t_values_r)]
set_option maxRecDepth 100000 in
theorem in_X0_foreseeOne_X0 : ∀ w ∈ wsX00, w ∈ wsX0_foreseeOne := by decide +kernel
set_option maxHeartbeats 4000000 in
set_option maxRecDepth 100000 in
theorem w_X0_foreseeOne_97 {p : Program} {l : Launch} {e : Env} {s : State} {m : MethodId} {args : Array Value} {below : List Frame} {meth : Method} {c : Code} {D : va_G} {cI cZ cR : ClassId} {A : Nat → Prop} {a_t a_t_values a_t_weight a_t_choices a_t_chooser a_t_owner a_t_held a_t_pick a_t_gain : Nat} {t_count : Int32} {t_values_r : Nat → Int32} {x1 : Int32} {x2 : Int32} {out : (Nat → Int32) × (Nat → Int32)} (X : cx p s m args meth c cX0_foreseeOne 7 none RX0 wsX0_foreseeOne) (hK : va_K D vwCl (ty3 cI cZ cR) s) (hA : ∀ q, s.heap.size ≤ q → A q) : ∀ (n : Nat) (x3 : Int32) (x4 : Int32) (x5 : Int32) (t_gain_r : Nat → Int32) (t_pick_r : Nat → Int32), F_X0_foreseeOne_97 x1 x2 t_values_r n x3 x4 x5 t_gain_r t_pick_r = some out → ∀ (H : Heap) (locs : List Loc), va_P D vwCl (wd_X0_foreseeOne cI cZ cR a_t a_t_values a_t_weight a_t_choices a_t_chooser a_t_owner a_t_held a_t_pick a_t_gain t_count t_gain_r t_pick_r t_values_r) H → va_D A (wd_X0_foreseeOne cI cZ cR a_t a_t_values a_t_weight a_t_choices a_t_chooser a_t_owner a_t_held a_t_pick a_t_gain t_count t_gain_r t_pick_r t_values_r) → va_S A s.heap H locs → ∀ (ls : Array Slot), lv_has ls 7 [(0, .ref a_t), (1, .int x1), (2, .int x2), (3, .int x3), (4, .int x4), (5, .int x5)] → W p l e (headSpec wsX0_foreseeOne ({ frames := 2, cells := 0, slots := 0, locals := 43 } : Room)).room s m args below meth c H locs 0 0 (MQ below (qv D cI cZ cR A (wd_X0_foreseeOne cI cZ cR a_t a_t_values a_t_weight a_t_choices a_t_chooser a_t_owner a_t_held a_t_pick a_t_gain t_count (out.1) (out.2) t_values_r)) args s 0 0 A) (F0 m 97 ls []) := by
  obtain ⟨hx, hb, hml, hr, hown, hts, hlocks, hN⟩ := id X
  intro n
  induction n with
  | zero =>
    intro x3 x4 x5 t_gain_r t_pick_r hf
    cases (show (none : Option ((Nat → Int32) × (Nat → Int32))) = some out from hf)
  | succ n ih =>
    intro x3 x4 x5 t_gain_r t_pick_r hf H locs hP hD hS ls hl
    rw [F_X0_foreseeOne_97] at hf
    refine lv_iload hx hb dX0_foreseeOne_97 (lv_at hl 5 rfl) ?_
    refine lv_bipush (v := (6 : Int32)) hx hb dX0_foreseeOne_99 (by decide) ?_
    refine lv_icmp_ge (tgt := 150) hx hb dX0_foreseeOne_101 (by decide) (fun c17 => ?_) (fun c17 => ?_)
    · have hf := ipos c17 hf
      cases hf
      exact retv X hK hP hD hS dX0_foreseeOne_150
    · have hf := ineg c17 hf
      refine lv_aload_n hx hb dX0_foreseeOne_104 rfl (lv_at hl 0 rfl) ?_
      refine lv_iload_n hx hb dX0_foreseeOne_105 rfl (lv_at hl 1 rfl) ?_
      refine lv_iconst (v := (1 : Int32)) hx hb dX0_foreseeOne_106 (by decide) ?_
      refine lv_iload_n hx hb dX0_foreseeOne_107 rfl (lv_at hl 3 rfl) ?_
      refine lv_ishl hx hb dX0_foreseeOne_108 ?_
      refine lv_iconst (v := (-1 : Int32)) hx hb dX0_foreseeOne_109 (by decide) ?_
      refine lv_ixor hx hb dX0_foreseeOne_110 ?_
      refine lv_iand hx hb dX0_foreseeOne_111 ?_
      refine lv_iload hx hb dX0_foreseeOne_112 (lv_at hl 5 rfl) ?_
      obtain ⟨r18, hr19, hf⟩ := bnd hf
      refine wcalli (D := D) (cI := cI) (cZ := cZ) (cR := cR) (wc := (wd_X0_gainOf cI cZ cR a_t a_t_values a_t_weight a_t_choices a_t_chooser a_t_owner a_t_held a_t_pick a_t_gain t_count t_gain_r)) (w' := (wd_X0_gainOf cI cZ cR a_t a_t_values a_t_weight a_t_choices a_t_chooser a_t_owner a_t_held a_t_pick a_t_gain t_count t_gain_r)) [0, 1] hP hD hS hA rfl rfl rfl (rnV (As := [.int (x1 &&& (((1 : Int32) <<< (x3 &&& 31)) ^^^ (-1 : Int32))), .int x5]) (ci := 0) (q0 := 0) X [0, 1] hK hP hD rfl rfl rfl rfl (c_X0_gainOf l D cI cZ cR hr19) (cwV 2 hts gX0_foreseeOne_X0_gainOf rfl rfl rfl (by decide +kernel) ⟨Nat.le_of_ble_eq_true rfl, Nat.le_of_ble_eq_true rfl⟩) rfl hl.1 rfl (Nat.le_of_ble_eq_true rfl) dX0_foreseeOne_114) (fun H locs hP hD hS => ?_)
      have hP : va_P D vwCl (wd_X0_foreseeOne cI cZ cR a_t a_t_values a_t_weight a_t_choices a_t_chooser a_t_owner a_t_held a_t_pick a_t_gain t_count t_gain_r t_pick_r t_values_r) H := hP
      have hD : va_D A (wd_X0_foreseeOne cI cZ cR a_t a_t_values a_t_weight a_t_choices a_t_chooser a_t_owner a_t_held a_t_pick a_t_gain t_count t_gain_r t_pick_r t_values_r) := hD
      refine lv_istore (lv' := [(6, .int r18), (0, .ref a_t), (1, .int x1), (2, .int x2), (3, .int x3), (4, .int x4), (5, .int x5)]) hx hb dX0_foreseeOne_117 hl (by decide) rfl (fun ls hl => ?_)
      refine lv_aload_n hx hb dX0_foreseeOne_119 rfl (lv_at hl 1 rfl) ?_
      refine va_get (D := D) (ci := 0) (v := .ref a_t_gain) (C := RX0) (T := TX0) (N := 9) hx hb hts in_X0_foreseeOne_X0 hown hK hP 0 rfl rfl 7 (by decide) (hts (.fieldLink RX0 33 "DivisionHall$Dealer" "gain" "[I") (by decide +kernel)) (fun _ h9 => h9) rfl dX0_foreseeOne_120 ?_
      refine lv_iload_n hx hb dX0_foreseeOne_123 rfl (lv_at hl 2 rfl) ?_
      refine lv_bipush (v := (6 : Int32)) hx hb dX0_foreseeOne_124 (by decide) ?_
      refine lv_imul hx hb dX0_foreseeOne_126 ?_
      refine lv_iload hx hb dX0_foreseeOne_127 (lv_at hl 6 rfl) ?_
      refine lv_iadd hx hb dX0_foreseeOne_129 ?_
      refine lv_iload hx hb dX0_foreseeOne_130 (lv_at hl 6 rfl) ?_
      refine lv_iload_n hx hb dX0_foreseeOne_132 rfl (lv_at hl 3 rfl) ?_
      refine lv_icmp_ne (tgt := 141) hx hb dX0_foreseeOne_133 (by decide) (fun c20 => ?_) (fun c20 => ?_)
      · have hf := ineg c20 hf
        refine lv_iload hx hb dX0_foreseeOne_141 (lv_at hl 0 rfl) ?_
        obtain ⟨hi21, hf⟩ := gin_s hf
        refine va_iast hx hb hK hP hD hS 1 0 rfl rfl hi21 dX0_foreseeOne_143 (fun H locs hP hD hS => ?_)
        have hP : va_P D vwCl (wd_X0_foreseeOne cI cZ cR a_t a_t_values a_t_weight a_t_choices a_t_chooser a_t_owner a_t_held a_t_pick a_t_gain t_count (upd t_gain_r (((x1 * (6 : Int32)) + x5)).toNatClampNeg r18) t_pick_r t_values_r) H := hP
        have hD : va_D A (wd_X0_foreseeOne cI cZ cR a_t a_t_values a_t_weight a_t_choices a_t_chooser a_t_owner a_t_held a_t_pick a_t_gain t_count (upd t_gain_r (((x1 * (6 : Int32)) + x5)).toNatClampNeg r18) t_pick_r t_values_r) := hD
        refine lv_iinc (v := (x5 + (1 : Int32))) (lv' := [(5, .int (x5 + (1 : Int32))), (6, .int r18), (0, .ref a_t), (1, .int x1), (2, .int x2), (3, .int x3), (4, .int x4)]) hx hb dX0_foreseeOne_144 hl (k := 6) rfl rfl (by decide) rfl (fun ls hl => ?_)
        refine lv_goto (tgt := 97) hx hb dX0_foreseeOne_147 (by decide) ?_
        exact ih x3 x4 (x5 + (1 : Int32)) (upd t_gain_r (((x1 * (6 : Int32)) + x5)).toNatClampNeg r18) t_pick_r hf _ _ hP hD hS _ (lv_sub hl [2, 3, 4, 5, 6, 0] rfl)
      · have hf := ipos c20 hf
        refine lv_iload hx hb dX0_foreseeOne_136 (lv_at hl 5 rfl) ?_
        refine lv_goto (tgt := 143) hx hb dX0_foreseeOne_138 (by decide) ?_
        obtain ⟨hi22, hf⟩ := gin_s hf
        refine va_iast hx hb hK hP hD hS 1 0 rfl rfl hi22 dX0_foreseeOne_143 (fun H locs hP hD hS => ?_)
        have hP : va_P D vwCl (wd_X0_foreseeOne cI cZ cR a_t a_t_values a_t_weight a_t_choices a_t_chooser a_t_owner a_t_held a_t_pick a_t_gain t_count (upd t_gain_r (((x1 * (6 : Int32)) + x5)).toNatClampNeg x4) t_pick_r t_values_r) H := hP
        have hD : va_D A (wd_X0_foreseeOne cI cZ cR a_t a_t_values a_t_weight a_t_choices a_t_chooser a_t_owner a_t_held a_t_pick a_t_gain t_count (upd t_gain_r (((x1 * (6 : Int32)) + x5)).toNatClampNeg x4) t_pick_r t_values_r) := hD
        refine lv_iinc (v := (x5 + (1 : Int32))) (lv' := [(5, .int (x5 + (1 : Int32))), (6, .int r18), (0, .ref a_t), (1, .int x1), (2, .int x2), (3, .int x3), (4, .int x4)]) hx hb dX0_foreseeOne_144 hl (k := 6) rfl rfl (by decide) rfl (fun ls hl => ?_)
        refine lv_goto (tgt := 97) hx hb dX0_foreseeOne_147 (by decide) ?_
        exact ih x3 x4 (x5 + (1 : Int32)) (upd t_gain_r (((x1 * (6 : Int32)) + x5)).toNatClampNeg x4) t_pick_r hf _ _ hP hD hS _ (lv_sub hl [2, 3, 4, 5, 6, 0] rfl)
set_option maxHeartbeats 4000000 in
set_option maxRecDepth 100000 in
theorem w_X0_foreseeOne_67 {p : Program} {l : Launch} {e : Env} {s : State} {m : MethodId} {args : Array Value} {below : List Frame} {meth : Method} {c : Code} {D : va_G} {cI cZ cR : ClassId} {A : Nat → Prop} {a_t a_t_values a_t_weight a_t_choices a_t_chooser a_t_owner a_t_held a_t_pick a_t_gain : Nat} {t_count : Int32} {t_values_r : Nat → Int32} {x1 : Int32} {x2 : Int32} {out : (Nat → Int32) × (Nat → Int32)} (X : cx p s m args meth c cX0_foreseeOne 7 none RX0 wsX0_foreseeOne) (hK : va_K D vwCl (ty3 cI cZ cR) s) (hA : ∀ q, s.heap.size ≤ q → A q) : ∀ (x3 : Int32) (x4 : Int32) (t_gain_r : Nat → Int32) (t_pick_r : Nat → Int32), F_X0_foreseeOne_67 x1 x2 t_values_r x3 x4 t_gain_r t_pick_r = some out → ∀ (H : Heap) (locs : List Loc), va_P D vwCl (wd_X0_foreseeOne cI cZ cR a_t a_t_values a_t_weight a_t_choices a_t_chooser a_t_owner a_t_held a_t_pick a_t_gain t_count t_gain_r t_pick_r t_values_r) H → va_D A (wd_X0_foreseeOne cI cZ cR a_t a_t_values a_t_weight a_t_choices a_t_chooser a_t_owner a_t_held a_t_pick a_t_gain t_count t_gain_r t_pick_r t_values_r) → va_S A s.heap H locs → ∀ (ls : Array Slot), lv_has ls 7 [(0, .ref a_t), (1, .int x1), (2, .int x2), (3, .int x3), (4, .int x4)] → W p l e (headSpec wsX0_foreseeOne ({ frames := 2, cells := 0, slots := 0, locals := 43 } : Room)).room s m args below meth c H locs 0 0 (MQ below (qv D cI cZ cR A (wd_X0_foreseeOne cI cZ cR a_t a_t_values a_t_weight a_t_choices a_t_chooser a_t_owner a_t_held a_t_pick a_t_gain t_count (out.1) (out.2) t_values_r)) args s 0 0 A) (F0 m 67 ls []) := by
  obtain ⟨hx, hb, hml, hr, hown, hts, hlocks, hN⟩ := id X
  intro x3 x4 t_gain_r t_pick_r hf H locs hP hD hS ls hl
  unfold F_X0_foreseeOne_67 at hf
  refine lv_iload_n hx hb dX0_foreseeOne_67 rfl (lv_at hl 1 rfl) ?_
  refine lv_sipush (v := (256 : Int32)) hx hb dX0_foreseeOne_68 (by decide) ?_
  obtain ⟨r10, hr11, hf⟩ := bnd hf
  refine wcalli (D := D) (cI := cI) (cZ := cZ) (cR := cR) (wc := (wd_X11_inside cI cZ cR)) (w' := (wd_X11_inside cI cZ cR)) [] hP hD hS hA rfl rfl rfl (rnSN (As := [.int x1, .int (256 : Int32)]) X [] hK hP hD rfl rfl (c_X11_inside l D cI cZ cR hr11) ⟨va_cnB (host := "DivisionHall") 2 hts ggX0_foreseeOne_X11_inside rfl rfl rfl (hN.2.1 ("DivisionHall$Dealer", 36, yX11_inside, "DivisionHall") (by decide +kernel)) (hts (.initialized RX11) (by decide +kernel)) (by decide +kernel) ⟨Nat.le_of_ble_eq_true rfl, Nat.le_of_ble_eq_true rfl⟩, hts (.static yX11_inside) (by decide +kernel), trivial⟩ rfl hl.1 rfl (Nat.le_of_ble_eq_true rfl) dX0_foreseeOne_71) (fun H locs hP hD hS => ?_)
  have hP : va_P D vwCl (wd_X0_foreseeOne cI cZ cR a_t a_t_values a_t_weight a_t_choices a_t_chooser a_t_owner a_t_held a_t_pick a_t_gain t_count t_gain_r t_pick_r t_values_r) H := hP
  have hD : va_D A (wd_X0_foreseeOne cI cZ cR a_t a_t_values a_t_weight a_t_choices a_t_chooser a_t_owner a_t_held a_t_pick a_t_gain t_count t_gain_r t_pick_r t_values_r) := hD
  refine lv_if_eq (tgt := 86) hx hb dX0_foreseeOne_74 (by decide) (fun c12 => ?_) (fun c12 => ?_)
  · have hf := ipos c12 hf
    cases hf
    exact retv X hK hP hD hS dX0_foreseeOne_86
  · have hf := ineg c12 hf
    refine lv_iload_n hx hb dX0_foreseeOne_77 rfl (lv_at hl 3 rfl) ?_
    refine lv_bipush (v := (8 : Int32)) hx hb dX0_foreseeOne_78 (by decide) ?_
    obtain ⟨r13, hr14, hf⟩ := bnd hf
    refine wcalli (D := D) (cI := cI) (cZ := cZ) (cR := cR) (wc := (wd_X11_inside cI cZ cR)) (w' := (wd_X11_inside cI cZ cR)) [] hP hD hS hA rfl rfl rfl (rnSN (As := [.int x3, .int (8 : Int32)]) X [] hK hP hD rfl rfl (c_X11_inside l D cI cZ cR hr14) ⟨va_cnB (host := "DivisionHall") 2 hts ggX0_foreseeOne_X11_inside rfl rfl rfl (hN.2.1 ("DivisionHall$Dealer", 36, yX11_inside, "DivisionHall") (by decide +kernel)) (hts (.initialized RX11) (by decide +kernel)) (by decide +kernel) ⟨Nat.le_of_ble_eq_true rfl, Nat.le_of_ble_eq_true rfl⟩, hts (.static yX11_inside) (by decide +kernel), trivial⟩ rfl hl.1 rfl (Nat.le_of_ble_eq_true rfl) dX0_foreseeOne_80) (fun H locs hP hD hS => ?_)
    have hP : va_P D vwCl (wd_X0_foreseeOne cI cZ cR a_t a_t_values a_t_weight a_t_choices a_t_chooser a_t_owner a_t_held a_t_pick a_t_gain t_count t_gain_r t_pick_r t_values_r) H := hP
    have hD : va_D A (wd_X0_foreseeOne cI cZ cR a_t a_t_values a_t_weight a_t_choices a_t_chooser a_t_owner a_t_held a_t_pick a_t_gain t_count t_gain_r t_pick_r t_values_r) := hD
    refine lv_if_ne (tgt := 87) hx hb dX0_foreseeOne_83 (by decide) (fun c15 => ?_) (fun c15 => ?_)
    · have hf := ineg c15 hf
      refine lv_aload_n hx hb dX0_foreseeOne_87 rfl (lv_at hl 0 rfl) ?_
      refine va_get (D := D) (ci := 0) (v := .ref a_t_pick) (C := RX0) (T := TX0) (N := 9) hx hb hts in_X0_foreseeOne_X0 hown hK hP 0 rfl rfl 6 (by decide) (hts (.fieldLink RX0 30 "DivisionHall$Dealer" "pick" "[I") (by decide +kernel)) (fun _ h9 => h9) rfl dX0_foreseeOne_88 ?_
      refine lv_iload_n hx hb dX0_foreseeOne_91 rfl (lv_at hl 1 rfl) ?_
      refine lv_iload_n hx hb dX0_foreseeOne_92 rfl (lv_at hl 3 rfl) ?_
      obtain ⟨hi16, hf⟩ := gin_s hf
      refine va_iast hx hb hK hP hD hS 2 0 rfl rfl hi16 dX0_foreseeOne_93 (fun H locs hP hD hS => ?_)
      have hP : va_P D vwCl (wd_X0_foreseeOne cI cZ cR a_t a_t_values a_t_weight a_t_choices a_t_chooser a_t_owner a_t_held a_t_pick a_t_gain t_count t_gain_r (upd t_pick_r (x1).toNatClampNeg x3) t_values_r) H := hP
      have hD : va_D A (wd_X0_foreseeOne cI cZ cR a_t a_t_values a_t_weight a_t_choices a_t_chooser a_t_owner a_t_held a_t_pick a_t_gain t_count t_gain_r (upd t_pick_r (x1).toNatClampNeg x3) t_values_r) := hD
      refine lv_iconst (v := (0 : Int32)) hx hb dX0_foreseeOne_94 (by decide) ?_
      refine lv_istore (lv' := [(5, .int (0 : Int32)), (0, .ref a_t), (1, .int x1), (2, .int x2), (3, .int x3), (4, .int x4)]) hx hb dX0_foreseeOne_95 hl (by decide) rfl (fun ls hl => ?_)
      exact w_X0_foreseeOne_97 X hK hA _ x3 x4 (0 : Int32) t_gain_r (upd t_pick_r (x1).toNatClampNeg x3) hf _ _ hP hD hS _ (lv_sub hl [1, 2, 3, 4, 5, 0] rfl)
    · have hf := ipos c15 hf
      cases hf
      exact retv X hK hP hD hS dX0_foreseeOne_86
set_option maxHeartbeats 4000000 in
set_option maxRecDepth 100000 in
theorem w_X0_foreseeOne_8 {p : Program} {l : Launch} {e : Env} {s : State} {m : MethodId} {args : Array Value} {below : List Frame} {meth : Method} {c : Code} {D : va_G} {cI cZ cR : ClassId} {A : Nat → Prop} {a_t a_t_values a_t_weight a_t_choices a_t_chooser a_t_owner a_t_held a_t_pick a_t_gain : Nat} {t_count : Int32} {t_values_r : Nat → Int32} {x1 : Int32} {x2 : Int32} {out : (Nat → Int32) × (Nat → Int32)} (X : cx p s m args meth c cX0_foreseeOne 7 none RX0 wsX0_foreseeOne) (hK : va_K D vwCl (ty3 cI cZ cR) s) (hA : ∀ q, s.heap.size ≤ q → A q) : ∀ (n : Nat) (x3 : Int32) (x4 : Int32) (x5 : Int32) (t_gain_r : Nat → Int32) (t_pick_r : Nat → Int32), F_X0_foreseeOne_8 x1 x2 t_values_r n x3 x4 x5 t_gain_r t_pick_r = some out → ∀ (H : Heap) (locs : List Loc), va_P D vwCl (wd_X0_foreseeOne cI cZ cR a_t a_t_values a_t_weight a_t_choices a_t_chooser a_t_owner a_t_held a_t_pick a_t_gain t_count t_gain_r t_pick_r t_values_r) H → va_D A (wd_X0_foreseeOne cI cZ cR a_t a_t_values a_t_weight a_t_choices a_t_chooser a_t_owner a_t_held a_t_pick a_t_gain t_count t_gain_r t_pick_r t_values_r) → va_S A s.heap H locs → ∀ (ls : Array Slot), lv_has ls 7 [(0, .ref a_t), (1, .int x1), (2, .int x2), (3, .int x3), (4, .int x4), (5, .int x5)] → W p l e (headSpec wsX0_foreseeOne ({ frames := 2, cells := 0, slots := 0, locals := 43 } : Room)).room s m args below meth c H locs 0 0 (MQ below (qv D cI cZ cR A (wd_X0_foreseeOne cI cZ cR a_t a_t_values a_t_weight a_t_choices a_t_chooser a_t_owner a_t_held a_t_pick a_t_gain t_count (out.1) (out.2) t_values_r)) args s 0 0 A) (F0 m 8 ls []) := by
  obtain ⟨hx, hb, hml, hr, hown, hts, hlocks, hN⟩ := id X
  intro n
  induction n with
  | zero =>
    intro x3 x4 x5 t_gain_r t_pick_r hf
    cases (show (none : Option ((Nat → Int32) × (Nat → Int32))) = some out from hf)
  | succ n ih =>
    intro x3 x4 x5 t_gain_r t_pick_r hf H locs hP hD hS ls hl
    rw [F_X0_foreseeOne_8] at hf
    refine lv_iload hx hb dX0_foreseeOne_8 (lv_at hl 5 rfl) ?_
    refine lv_bipush (v := (8 : Int32)) hx hb dX0_foreseeOne_10 (by decide) ?_
    refine lv_icmp_ge (tgt := 67) hx hb dX0_foreseeOne_12 (by decide) (fun c1 => ?_) (fun c1 => ?_)
    · have hf := ipos c1 hf
      exact w_X0_foreseeOne_67 X hK hA x3 x4 t_gain_r t_pick_r hf _ _ hP hD hS _ (lv_sub hl [0, 1, 2, 3, 4] rfl)
    · have hf := ineg c1 hf
      refine lv_iload_n hx hb dX0_foreseeOne_15 rfl (lv_at hl 1 rfl) ?_
      refine lv_iload hx hb dX0_foreseeOne_16 (lv_at hl 5 rfl) ?_
      obtain ⟨r2, hr3, hf⟩ := bnd hf
      refine wcalli (D := D) (cI := cI) (cZ := cZ) (cR := cR) (wc := (wd_X11_has cI cZ cR)) (w' := (wd_X11_has cI cZ cR)) [] hP hD hS hA rfl rfl rfl (rnSN (As := [.int x1, .int x5]) X [] hK hP hD rfl rfl (c_X11_has l D cI cZ cR hr3) ⟨va_cnB (host := "DivisionHall") 2 hts ggX0_foreseeOne_X11_has rfl rfl rfl (hN.2.1 ("DivisionHall$Dealer", 40, yX11_has, "DivisionHall") (by decide +kernel)) (hts (.initialized RX11) (by decide +kernel)) (by decide +kernel) ⟨Nat.le_of_ble_eq_true rfl, Nat.le_of_ble_eq_true rfl⟩, hts (.static yX11_has) (by decide +kernel), trivial⟩ rfl hl.1 rfl (Nat.le_of_ble_eq_true rfl) dX0_foreseeOne_18) (fun H locs hP hD hS => ?_)
      have hP : va_P D vwCl (wd_X0_foreseeOne cI cZ cR a_t a_t_values a_t_weight a_t_choices a_t_chooser a_t_owner a_t_held a_t_pick a_t_gain t_count t_gain_r t_pick_r t_values_r) H := hP
      have hD : va_D A (wd_X0_foreseeOne cI cZ cR a_t a_t_values a_t_weight a_t_choices a_t_chooser a_t_owner a_t_held a_t_pick a_t_gain t_count t_gain_r t_pick_r t_values_r) := hD
      refine lv_if_eq (tgt := 61) hx hb dX0_foreseeOne_21 (by decide) (fun c4 => ?_) (fun c4 => ?_)
      · have hf := ipos c4 hf
        refine lv_iinc (v := (x5 + (1 : Int32))) (lv' := [(5, .int (x5 + (1 : Int32))), (0, .ref a_t), (1, .int x1), (2, .int x2), (3, .int x3), (4, .int x4)]) hx hb dX0_foreseeOne_61 hl (k := 5) rfl rfl (by decide) rfl (fun ls hl => ?_)
        refine lv_goto (tgt := 8) hx hb dX0_foreseeOne_64 (by decide) ?_
        exact ih x3 x4 (x5 + (1 : Int32)) t_gain_r t_pick_r hf _ _ hP hD hS _ (lv_sub hl [1, 2, 3, 4, 5, 0] rfl)
      · have hf := ineg c4 hf
        refine lv_aload_n hx hb dX0_foreseeOne_24 rfl (lv_at hl 0 rfl) ?_
        refine lv_iload hx hb dX0_foreseeOne_25 (lv_at hl 5 rfl) ?_
        refine lv_iload_n hx hb dX0_foreseeOne_27 rfl (lv_at hl 2 rfl) ?_
        obtain ⟨r5, hr6, hf⟩ := bnd hf
        refine wcalli (D := D) (cI := cI) (cZ := cZ) (cR := cR) (wc := (wd_X0_priceOf cI cZ cR a_t a_t_values a_t_weight a_t_choices a_t_chooser a_t_owner a_t_held a_t_pick a_t_gain t_count t_values_r)) (w' := (wd_X0_priceOf cI cZ cR a_t a_t_values a_t_weight a_t_choices a_t_chooser a_t_owner a_t_held a_t_pick a_t_gain t_count t_values_r)) [0, 3] hP hD hS hA rfl rfl rfl (rnV (As := [.int x5, .int x2]) (ci := 0) (q0 := 0) X [0, 3] hK hP hD rfl rfl rfl rfl (c_X0_priceOf l D cI cZ cR hr6) (cwV 2 hts gX0_foreseeOne_X0_priceOf rfl rfl rfl (by decide +kernel) ⟨Nat.le_of_ble_eq_true rfl, Nat.le_of_ble_eq_true rfl⟩) rfl hl.1 rfl (Nat.le_of_ble_eq_true rfl) dX0_foreseeOne_28) (fun H locs hP hD hS => ?_)
        have hP : va_P D vwCl (wd_X0_foreseeOne cI cZ cR a_t a_t_values a_t_weight a_t_choices a_t_chooser a_t_owner a_t_held a_t_pick a_t_gain t_count t_gain_r t_pick_r t_values_r) H := hP
        have hD : va_D A (wd_X0_foreseeOne cI cZ cR a_t a_t_values a_t_weight a_t_choices a_t_chooser a_t_owner a_t_held a_t_pick a_t_gain t_count t_gain_r t_pick_r t_values_r) := hD
        refine lv_aload_n hx hb dX0_foreseeOne_31 rfl (lv_at hl 0 rfl) ?_
        refine lv_iload_n hx hb dX0_foreseeOne_32 rfl (lv_at hl 1 rfl) ?_
        refine lv_iconst (v := (1 : Int32)) hx hb dX0_foreseeOne_33 (by decide) ?_
        refine lv_iload hx hb dX0_foreseeOne_34 (lv_at hl 5 rfl) ?_
        refine lv_ishl hx hb dX0_foreseeOne_36 ?_
        refine lv_iconst (v := (-1 : Int32)) hx hb dX0_foreseeOne_37 (by decide) ?_
        refine lv_ixor hx hb dX0_foreseeOne_38 ?_
        refine lv_iand hx hb dX0_foreseeOne_39 ?_
        refine lv_iload_n hx hb dX0_foreseeOne_40 rfl (lv_at hl 2 rfl) ?_
        obtain ⟨r7, hr8, hf⟩ := bnd hf
        refine wcalli (D := D) (cI := cI) (cZ := cZ) (cR := cR) (wc := (wd_X0_gainOf cI cZ cR a_t a_t_values a_t_weight a_t_choices a_t_chooser a_t_owner a_t_held a_t_pick a_t_gain t_count t_gain_r)) (w' := (wd_X0_gainOf cI cZ cR a_t a_t_values a_t_weight a_t_choices a_t_chooser a_t_owner a_t_held a_t_pick a_t_gain t_count t_gain_r)) [0, 1] hP hD hS hA rfl rfl rfl (rnV (As := [.int (x1 &&& (((1 : Int32) <<< (x5 &&& 31)) ^^^ (-1 : Int32))), .int x2]) (ci := 0) (q0 := 0) X [0, 1] hK hP hD rfl rfl rfl rfl (c_X0_gainOf l D cI cZ cR hr8) (cwV 2 hts gX0_foreseeOne_X0_gainOf rfl rfl rfl (by decide +kernel) ⟨Nat.le_of_ble_eq_true rfl, Nat.le_of_ble_eq_true rfl⟩) rfl hl.1 rfl (Nat.le_of_ble_eq_true rfl) dX0_foreseeOne_41) (fun H locs hP hD hS => ?_)
        have hP : va_P D vwCl (wd_X0_foreseeOne cI cZ cR a_t a_t_values a_t_weight a_t_choices a_t_chooser a_t_owner a_t_held a_t_pick a_t_gain t_count t_gain_r t_pick_r t_values_r) H := hP
        have hD : va_D A (wd_X0_foreseeOne cI cZ cR a_t a_t_values a_t_weight a_t_choices a_t_chooser a_t_owner a_t_held a_t_pick a_t_gain t_count t_gain_r t_pick_r t_values_r) := hD
        refine lv_iadd hx hb dX0_foreseeOne_44 ?_
        refine lv_istore (lv' := [(6, .int (r5 + r7)), (0, .ref a_t), (1, .int x1), (2, .int x2), (3, .int x3), (4, .int x4), (5, .int x5)]) hx hb dX0_foreseeOne_45 hl (by decide) rfl (fun ls hl => ?_)
        refine lv_iload hx hb dX0_foreseeOne_47 (lv_at hl 0 rfl) ?_
        refine lv_iload hx hb dX0_foreseeOne_49 (lv_at hl 5 rfl) ?_
        refine lv_icmp_le (tgt := 61) hx hb dX0_foreseeOne_51 (by decide) (fun c9 => ?_) (fun c9 => ?_)
        · have hf := ipos c9 hf
          refine lv_iinc (v := (x5 + (1 : Int32))) (lv' := [(5, .int (x5 + (1 : Int32))), (6, .int (r5 + r7)), (0, .ref a_t), (1, .int x1), (2, .int x2), (3, .int x3), (4, .int x4)]) hx hb dX0_foreseeOne_61 hl (k := 6) rfl rfl (by decide) rfl (fun ls hl => ?_)
          refine lv_goto (tgt := 8) hx hb dX0_foreseeOne_64 (by decide) ?_
          exact ih x3 x4 (x5 + (1 : Int32)) t_gain_r t_pick_r hf _ _ hP hD hS _ (lv_sub hl [2, 3, 4, 5, 6, 0] rfl)
        · have hf := ineg c9 hf
          refine lv_iload hx hb dX0_foreseeOne_54 (lv_at hl 0 rfl) ?_
          refine lv_istore (lv' := [(4, .int (r5 + r7)), (6, .int (r5 + r7)), (0, .ref a_t), (1, .int x1), (2, .int x2), (3, .int x3), (5, .int x5)]) hx hb dX0_foreseeOne_56 hl (by decide) rfl (fun ls hl => ?_)
          refine lv_iload hx hb dX0_foreseeOne_58 (lv_at hl 6 rfl) ?_
          refine lv_istore_n (lv' := [(3, .int x5), (4, .int (r5 + r7)), (6, .int (r5 + r7)), (0, .ref a_t), (1, .int x1), (2, .int x2), (5, .int x5)]) hx hb dX0_foreseeOne_60 rfl hl (by decide) rfl (fun ls hl => ?_)
          refine lv_iinc (v := (x5 + (1 : Int32))) (lv' := [(5, .int (x5 + (1 : Int32))), (3, .int x5), (4, .int (r5 + r7)), (6, .int (r5 + r7)), (0, .ref a_t), (1, .int x1), (2, .int x2)]) hx hb dX0_foreseeOne_61 hl (k := 6) rfl rfl (by decide) rfl (fun ls hl => ?_)
          refine lv_goto (tgt := 8) hx hb dX0_foreseeOne_64 (by decide) ?_
          exact ih x5 (r5 + r7) (x5 + (1 : Int32)) t_gain_r t_pick_r hf _ _ hP hD hS _ (lv_sub hl [4, 5, 6, 1, 2, 0] rfl)
set_option maxHeartbeats 4000000 in
set_option maxRecDepth 100000 in
theorem c_X0_foreseeOne (l : Launch) (D : va_G) (cI cZ cR : ClassId) {a_t a_t_values a_t_weight a_t_choices a_t_chooser a_t_owner a_t_held a_t_pick a_t_gain : Nat} {t_count : Int32} {t_gain_r : Nat → Int32} {t_pick_r : Nat → Int32} {t_values_r : Nat → Int32} {x1 : Int32} {x2 : Int32} {sz : Nat} {out : (Nat → Int32) × (Nat → Int32)} (hf : F_X0_foreseeOne x1 x2 t_gain_r t_pick_r t_values_r = some out) : CV l yX0_foreseeOne wsX0_foreseeOne ({ frames := 2, cells := 0, slots := 0, locals := 43 } : Room) D cI cZ cR [.ref a_t, .int x1, .int x2] (wd_X0_foreseeOne cI cZ cR a_t a_t_values a_t_weight a_t_choices a_t_chooser a_t_owner a_t_held a_t_pick a_t_gain t_count t_gain_r t_pick_r t_values_r) sz (wd_X0_foreseeOne cI cZ cR a_t a_t_values a_t_weight a_t_choices a_t_chooser a_t_owner a_t_held a_t_pick a_t_gain t_count (out.1) (out.2) t_values_r) := by
  refine met_of (Qf := fun A => qv D cI cZ cR A (wd_X0_foreseeOne cI cZ cR a_t a_t_values a_t_weight a_t_choices a_t_chooser a_t_owner a_t_held a_t_pick a_t_gain t_count (out.1) (out.2) t_values_r)) RX0 (by decide +kernel) rfl rfl (Nat.le_of_ble_eq_true rfl) ?_
  intro p e s m below meth c A X hK hA hP hD hS ls hl
  have hl : lv_has ls 7 [(0, .ref a_t), (1, .int x1), (2, .int x2)] := hl
  obtain ⟨hx, hb, hml, hr, hown, hts, hlocks, hN⟩ := id X
  unfold F_X0_foreseeOne at hf
  refine lv_iconst (v := (-1 : Int32)) hx hb dX0_foreseeOne_0 (by decide) ?_
  refine lv_istore_n (lv' := [(3, .int (-1 : Int32)), (0, .ref a_t), (1, .int x1), (2, .int x2)]) hx hb dX0_foreseeOne_1 rfl hl (by decide) rfl (fun ls hl => ?_)
  refine lv_iconst (v := (-1 : Int32)) hx hb dX0_foreseeOne_2 (by decide) ?_
  refine lv_istore (lv' := [(4, .int (-1 : Int32)), (3, .int (-1 : Int32)), (0, .ref a_t), (1, .int x1), (2, .int x2)]) hx hb dX0_foreseeOne_3 hl (by decide) rfl (fun ls hl => ?_)
  refine lv_iconst (v := (0 : Int32)) hx hb dX0_foreseeOne_5 (by decide) ?_
  refine lv_istore (lv' := [(5, .int (0 : Int32)), (4, .int (-1 : Int32)), (3, .int (-1 : Int32)), (0, .ref a_t), (1, .int x1), (2, .int x2)]) hx hb dX0_foreseeOne_6 hl (by decide) rfl (fun ls hl => ?_)
  exact w_X0_foreseeOne_8 X hK hA _ (-1 : Int32) (-1 : Int32) (0 : Int32) t_gain_r t_pick_r hf _ _ hP hD hS _ (lv_sub hl [3, 4, 5, 2, 1, 0] rfl)

abbrev wd_X0_foresee (cI cZ cR : ClassId) (a_t a_t_values a_t_weight a_t_choices a_t_chooser a_t_owner a_t_held a_t_pick a_t_gain : Nat) (t_count : Int32) (t_chooser_r : Nat → Int32) (t_gain_r : Nat → Int32) (t_pick_r : Nat → Int32) (t_values_r : Nat → Int32) : va_W := [(a_t, oB 0 [.ref a_t_values, .ref a_t_weight, .ref a_t_choices, .ref a_t_chooser, .ref a_t_owner, .ref a_t_held, .ref a_t_pick, .ref a_t_gain, .int t_count]), (a_t_chooser, aI cI 8 t_chooser_r), (a_t_gain, aI cI 1536 t_gain_r), (a_t_pick, aI cI 256 t_pick_r), (a_t_values, aI cI 48 t_values_r)]
set_option maxRecDepth 100000 in
theorem in_X0_foresee_X0 : ∀ w ∈ wsX00, w ∈ wsX0_foresee := by decide +kernel
set_option maxHeartbeats 4000000 in
set_option maxRecDepth 100000 in
theorem w_X0_foresee_2 {p : Program} {l : Launch} {e : Env} {s : State} {m : MethodId} {args : Array Value} {below : List Frame} {meth : Method} {c : Code} {D : va_G} {cI cZ cR : ClassId} {A : Nat → Prop} {a_t a_t_values a_t_weight a_t_choices a_t_chooser a_t_owner a_t_held a_t_pick a_t_gain : Nat} {t_count : Int32} {t_chooser_r : Nat → Int32} {t_values_r : Nat → Int32} {x1 : Int32} {out : (Nat → Int32) × (Nat → Int32)} (X : cx p s m args meth c cX0_foresee 4 none RX0 wsX0_foresee) (hK : va_K D vwCl (ty3 cI cZ cR) s) (hA : ∀ q, s.heap.size ≤ q → A q) : ∀ (n : Nat) (x2 : Int32) (t_gain_r : Nat → Int32) (t_pick_r : Nat → Int32), F_X0_foresee_2 x1 t_count t_chooser_r t_values_r n x2 t_gain_r t_pick_r = some out → ∀ (H : Heap) (locs : List Loc), va_P D vwCl (wd_X0_foresee cI cZ cR a_t a_t_values a_t_weight a_t_choices a_t_chooser a_t_owner a_t_held a_t_pick a_t_gain t_count t_chooser_r t_gain_r t_pick_r t_values_r) H → va_D A (wd_X0_foresee cI cZ cR a_t a_t_values a_t_weight a_t_choices a_t_chooser a_t_owner a_t_held a_t_pick a_t_gain t_count t_chooser_r t_gain_r t_pick_r t_values_r) → va_S A s.heap H locs → ∀ (ls : Array Slot), lv_has ls 4 [(0, .ref a_t), (1, .int x1), (2, .int x2)] → W p l e (headSpec wsX0_foresee ({ frames := 3, cells := 0, slots := 0, locals := 69 } : Room)).room s m args below meth c H locs 0 0 (MQ below (qv D cI cZ cR A (wd_X0_foresee cI cZ cR a_t a_t_values a_t_weight a_t_choices a_t_chooser a_t_owner a_t_held a_t_pick a_t_gain t_count t_chooser_r (out.1) (out.2) t_values_r)) args s 0 0 A) (F0 m 2 ls []) := by
  obtain ⟨hx, hb, hml, hr, hown, hts, hlocks, hN⟩ := id X
  intro n
  induction n with
  | zero =>
    intro x2 t_gain_r t_pick_r hf
    cases (show (none : Option ((Nat → Int32) × (Nat → Int32))) = some out from hf)
  | succ n ih =>
    intro x2 t_gain_r t_pick_r hf H locs hP hD hS ls hl
    rw [F_X0_foresee_2] at hf
    refine lv_iload_n hx hb dX0_foresee_2 rfl (lv_at hl 2 rfl) ?_
    refine lv_iload_n hx hb dX0_foresee_3 rfl (lv_at hl 1 rfl) ?_
    refine lv_icmp_gt (tgt := 58) hx hb dX0_foresee_4 (by decide) (fun c1 => ?_) (fun c1 => ?_)
    · have hf := ipos c1 hf
      cases hf
      exact retv X hK hP hD hS dX0_foresee_58
    · have hf := ineg c1 hf
      refine lv_iload_n hx hb dX0_foresee_7 rfl (lv_at hl 2 rfl) ?_
      refine lv_sipush (v := (256 : Int32)) hx hb dX0_foresee_8 (by decide) ?_
      refine lv_icmp_ge (tgt := 58) hx hb dX0_foresee_11 (by decide) (fun c2 => ?_) (fun c2 => ?_)
      · have hf := ipos c2 hf
        cases hf
        exact retv X hK hP hD hS dX0_foresee_58
      · have hf := ineg c2 hf
        refine lv_aload_n hx hb dX0_foresee_14 rfl (lv_at hl 0 rfl) ?_
        refine va_get (D := D) (ci := 0) (v := .int t_count) (C := RX0) (T := TX0) (N := 9) hx hb hts in_X0_foresee_X0 hown hK hP 0 rfl rfl 8 (by decide) (hts (.fieldLink RX0 64 "DivisionHall$Dealer" "count" "I") (by decide +kernel)) (fun _ h9 => h9) rfl dX0_foresee_15 ?_
        refine lv_iload_n hx hb dX0_foresee_18 rfl (lv_at hl 2 rfl) ?_
        obtain ⟨r3, hr4, hf⟩ := bnd hf
        refine wcalli (D := D) (cI := cI) (cZ := cZ) (cR := cR) (wc := (wd_J6_bitCount_0f7a4 cI cZ cR)) (w' := (wd_J6_bitCount_0f7a4 cI cZ cR)) [] hP hD hS hA rfl rfl rfl (rnS (As := [.int x2]) X [] hK hP hD rfl rfl (c_J6_bitCount_0f7a4 l D cI cZ cR hr4) ⟨callB_of 1 hts ggX0_foresee_J6_bitCount_0f7a4 rfl rfl rfl (hts (.initialized RJ6) (by decide +kernel)) (hts (.methodLink RX0 82 yJ6_bitCount_0f7a4) (by decide +kernel)) (by decide +kernel) ⟨Nat.le_of_ble_eq_true rfl, Nat.le_of_ble_eq_true rfl⟩, hts (.static yJ6_bitCount_0f7a4) (by decide +kernel)⟩ rfl hl.1 rfl (Nat.le_of_ble_eq_true rfl) dX0_foresee_19) (fun H locs hP hD hS => ?_)
        have hP : va_P D vwCl (wd_X0_foresee cI cZ cR a_t a_t_values a_t_weight a_t_choices a_t_chooser a_t_owner a_t_held a_t_pick a_t_gain t_count t_chooser_r t_gain_r t_pick_r t_values_r) H := hP
        have hD : va_D A (wd_X0_foresee cI cZ cR a_t a_t_values a_t_weight a_t_choices a_t_chooser a_t_owner a_t_held a_t_pick a_t_gain t_count t_chooser_r t_gain_r t_pick_r t_values_r) := hD
        refine lv_isub hx hb dX0_foresee_22 ?_
        refine lv_istore_n (lv' := [(3, .int (t_count - r3)), (0, .ref a_t), (1, .int x1), (2, .int x2)]) hx hb dX0_foresee_23 rfl hl (by decide) rfl (fun ls hl => ?_)
        refine lv_iload_n hx hb dX0_foresee_24 rfl (lv_at hl 3 rfl) ?_
        refine lv_iload_n hx hb dX0_foresee_25 rfl (lv_at hl 2 rfl) ?_
        obtain ⟨r5, hr6, hf⟩ := bnd hf
        refine wcalli (D := D) (cI := cI) (cZ := cZ) (cR := cR) (wc := (wd_X11_isWithin cI cZ cR)) (w' := (wd_X11_isWithin cI cZ cR)) [] hP hD hS hA rfl rfl rfl (rnSN (As := [.int x2, .int x1]) X [] hK hP hD rfl rfl (c_X11_isWithin l D cI cZ cR hr6) ⟨va_cnB (host := "DivisionHall") 2 hts ggX0_foresee_X11_isWithin rfl rfl rfl (hN.2.1 ("DivisionHall$Dealer", 87, yX11_isWithin, "DivisionHall") (by decide +kernel)) (hts (.initialized RX11) (by decide +kernel)) (by decide +kernel) ⟨Nat.le_of_ble_eq_true rfl, Nat.le_of_ble_eq_true rfl⟩, hts (.static yX11_isWithin) (by decide +kernel), trivial⟩ rfl hl.1 rfl (Nat.le_of_ble_eq_true rfl) dX0_foresee_26) (fun H locs hP hD hS => ?_)
        have hP : va_P D vwCl (wd_X0_foresee cI cZ cR a_t a_t_values a_t_weight a_t_choices a_t_chooser a_t_owner a_t_held a_t_pick a_t_gain t_count t_chooser_r t_gain_r t_pick_r t_values_r) H := hP
        have hD : va_D A (wd_X0_foresee cI cZ cR a_t a_t_values a_t_weight a_t_choices a_t_chooser a_t_owner a_t_held a_t_pick a_t_gain t_count t_chooser_r t_gain_r t_pick_r t_values_r) := hD
        refine lv_if_eq (tgt := 52) hx hb dX0_foresee_29 (by decide) (fun c7 => ?_) (fun c7 => ?_)
        · have hf := ipos c7 hf
          refine lv_iinc (v := (x2 + (1 : Int32))) (lv' := [(2, .int (x2 + (1 : Int32))), (3, .int (t_count - r3)), (0, .ref a_t), (1, .int x1)]) hx hb dX0_foresee_52 hl (k := 3) rfl rfl (by decide) rfl (fun ls hl => ?_)
          refine lv_goto (tgt := 2) hx hb dX0_foresee_55 (by decide) ?_
          exact ih (x2 + (1 : Int32)) t_gain_r t_pick_r hf _ _ hP hD hS _ (lv_sub hl [2, 3, 0] rfl)
        · have hf := ineg c7 hf
          refine lv_iload_n hx hb dX0_foresee_32 rfl (lv_at hl 0 rfl) ?_
          refine lv_bipush (v := (8 : Int32)) hx hb dX0_foresee_33 (by decide) ?_
          obtain ⟨r8, hr9, hf⟩ := bnd hf
          refine wcalli (D := D) (cI := cI) (cZ := cZ) (cR := cR) (wc := (wd_X11_inside cI cZ cR)) (w' := (wd_X11_inside cI cZ cR)) [] hP hD hS hA rfl rfl rfl (rnSN (As := [.int (t_count - r3), .int (8 : Int32)]) X [] hK hP hD rfl rfl (c_X11_inside l D cI cZ cR hr9) ⟨va_cnB (host := "DivisionHall") 2 hts ggX0_foresee_X11_inside rfl rfl rfl (hN.2.1 ("DivisionHall$Dealer", 36, yX11_inside, "DivisionHall") (by decide +kernel)) (hts (.initialized RX11) (by decide +kernel)) (by decide +kernel) ⟨Nat.le_of_ble_eq_true rfl, Nat.le_of_ble_eq_true rfl⟩, hts (.static yX11_inside) (by decide +kernel), trivial⟩ rfl hl.1 rfl (Nat.le_of_ble_eq_true rfl) dX0_foresee_35) (fun H locs hP hD hS => ?_)
          have hP : va_P D vwCl (wd_X0_foresee cI cZ cR a_t a_t_values a_t_weight a_t_choices a_t_chooser a_t_owner a_t_held a_t_pick a_t_gain t_count t_chooser_r t_gain_r t_pick_r t_values_r) H := hP
          have hD : va_D A (wd_X0_foresee cI cZ cR a_t a_t_values a_t_weight a_t_choices a_t_chooser a_t_owner a_t_held a_t_pick a_t_gain t_count t_chooser_r t_gain_r t_pick_r t_values_r) := hD
          refine lv_if_eq (tgt := 52) hx hb dX0_foresee_38 (by decide) (fun c10 => ?_) (fun c10 => ?_)
          · have hf := ipos c10 hf
            refine lv_iinc (v := (x2 + (1 : Int32))) (lv' := [(2, .int (x2 + (1 : Int32))), (3, .int (t_count - r3)), (0, .ref a_t), (1, .int x1)]) hx hb dX0_foresee_52 hl (k := 3) rfl rfl (by decide) rfl (fun ls hl => ?_)
            refine lv_goto (tgt := 2) hx hb dX0_foresee_55 (by decide) ?_
            exact ih (x2 + (1 : Int32)) t_gain_r t_pick_r hf _ _ hP hD hS _ (lv_sub hl [2, 3, 0] rfl)
          · have hf := ineg c10 hf
            refine lv_aload_n hx hb dX0_foresee_41 rfl (lv_at hl 1 rfl) ?_
            refine lv_iload_n hx hb dX0_foresee_42 rfl (lv_at hl 3 rfl) ?_
            refine lv_aload_n hx hb dX0_foresee_43 rfl (lv_at hl 1 rfl) ?_
            refine va_get (D := D) (ci := 0) (v := .ref a_t_chooser) (C := RX0) (T := TX0) (N := 9) hx hb hts in_X0_foresee_X0 hown hK hP 0 rfl rfl 3 (by decide) (hts (.fieldLink RX0 21 "DivisionHall$Dealer" "chooser" "[I") (by decide +kernel)) (fun _ h9 => h9) rfl dX0_foresee_44 ?_
            refine lv_iload_n hx hb dX0_foresee_47 rfl (lv_at hl 0 rfl) ?_
            obtain ⟨hi11, hf⟩ := gin_s hf
            refine va_iald hx hb hK hP 1 0 rfl rfl hi11 dX0_foresee_48 ?_
            obtain ⟨r12, hr13, hf⟩ := bnd hf
            refine wcallv (D := D) (cI := cI) (cZ := cZ) (cR := cR) (wc := (wd_X0_foreseeOne cI cZ cR a_t a_t_values a_t_weight a_t_choices a_t_chooser a_t_owner a_t_held a_t_pick a_t_gain t_count t_gain_r t_pick_r t_values_r)) (w' := (wd_X0_foreseeOne cI cZ cR a_t a_t_values a_t_weight a_t_choices a_t_chooser a_t_owner a_t_held a_t_pick a_t_gain t_count (r12.1) (r12.2) t_values_r)) [0, 2, 3, 4] hP hD hS hA rfl rfl rfl (rnV (As := [.int x2, .int (t_chooser_r ((t_count - r3)).toNatClampNeg)]) (ci := 0) (q0 := 0) X [0, 2, 3, 4] hK hP hD rfl rfl rfl rfl (c_X0_foreseeOne l D cI cZ cR hr13) (cwV 2 hts gX0_foresee_X0_foreseeOne rfl rfl rfl (by decide +kernel) ⟨Nat.le_of_ble_eq_true rfl, Nat.le_of_ble_eq_true rfl⟩) rfl hl.1 rfl (Nat.le_of_ble_eq_true rfl) dX0_foresee_49) (fun H locs hP hD hS => ?_)
            have hP : va_P D vwCl (wd_X0_foresee cI cZ cR a_t a_t_values a_t_weight a_t_choices a_t_chooser a_t_owner a_t_held a_t_pick a_t_gain t_count t_chooser_r (r12.1) (r12.2) t_values_r) H := hP
            have hD : va_D A (wd_X0_foresee cI cZ cR a_t a_t_values a_t_weight a_t_choices a_t_chooser a_t_owner a_t_held a_t_pick a_t_gain t_count t_chooser_r (r12.1) (r12.2) t_values_r) := hD
            refine lv_iinc (v := (x2 + (1 : Int32))) (lv' := [(2, .int (x2 + (1 : Int32))), (3, .int (t_count - r3)), (0, .ref a_t), (1, .int x1)]) hx hb dX0_foresee_52 hl (k := 3) rfl rfl (by decide) rfl (fun ls hl => ?_)
            refine lv_goto (tgt := 2) hx hb dX0_foresee_55 (by decide) ?_
            exact ih (x2 + (1 : Int32)) (r12.1) (r12.2) hf _ _ hP hD hS _ (lv_sub hl [2, 3, 0] rfl)
set_option maxHeartbeats 4000000 in
set_option maxRecDepth 100000 in
theorem c_X0_foresee (l : Launch) (D : va_G) (cI cZ cR : ClassId) {a_t a_t_values a_t_weight a_t_choices a_t_chooser a_t_owner a_t_held a_t_pick a_t_gain : Nat} {t_count : Int32} {t_chooser_r : Nat → Int32} {t_gain_r : Nat → Int32} {t_pick_r : Nat → Int32} {t_values_r : Nat → Int32} {x1 : Int32} {sz : Nat} {out : (Nat → Int32) × (Nat → Int32)} (hf : F_X0_foresee x1 t_count t_chooser_r t_gain_r t_pick_r t_values_r = some out) : CV l yX0_foresee wsX0_foresee ({ frames := 3, cells := 0, slots := 0, locals := 69 } : Room) D cI cZ cR [.ref a_t, .int x1] (wd_X0_foresee cI cZ cR a_t a_t_values a_t_weight a_t_choices a_t_chooser a_t_owner a_t_held a_t_pick a_t_gain t_count t_chooser_r t_gain_r t_pick_r t_values_r) sz (wd_X0_foresee cI cZ cR a_t a_t_values a_t_weight a_t_choices a_t_chooser a_t_owner a_t_held a_t_pick a_t_gain t_count t_chooser_r (out.1) (out.2) t_values_r) := by
  refine met_of (Qf := fun A => qv D cI cZ cR A (wd_X0_foresee cI cZ cR a_t a_t_values a_t_weight a_t_choices a_t_chooser a_t_owner a_t_held a_t_pick a_t_gain t_count t_chooser_r (out.1) (out.2) t_values_r)) RX0 (by decide +kernel) rfl rfl (Nat.le_of_ble_eq_true rfl) ?_
  intro p e s m below meth c A X hK hA hP hD hS ls hl
  have hl : lv_has ls 4 [(0, .ref a_t), (1, .int x1)] := hl
  obtain ⟨hx, hb, hml, hr, hown, hts, hlocks, hN⟩ := id X
  unfold F_X0_foresee at hf
  refine lv_iconst (v := (1 : Int32)) hx hb dX0_foresee_0 (by decide) ?_
  refine lv_istore_n (lv' := [(2, .int (1 : Int32)), (0, .ref a_t), (1, .int x1)]) hx hb dX0_foresee_1 rfl hl (by decide) rfl (fun ls hl => ?_)
  exact w_X0_foresee_2 X hK hA _ (1 : Int32) t_gain_r t_pick_r hf _ _ hP hD hS _ (lv_sub hl [1, 2, 0] rfl)
