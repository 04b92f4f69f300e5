abbrev wd_X0_price (cI cZ cR : ClassId) (a_t a_t_values a_t_weight a_t_choices a_t_chooser a_t_owner a_t_held a_t_pick a_t_gain : Nat) (t_count : Int32) (t_values_r : Nat → Int32) : va_W := [(a_t, oB 0 [.ref a_t_values, .ref a_t_weight, .ref a_t_choices, .ref a_t_chooser, .ref a_t_owner, .ref a_t_held, .ref a_t_pick, .ref a_t_gain, .int t_count]), (a_t_values, aI cI 48 t_values_r)]
set_option maxRecDepth 100000 in
theorem in_X0_price_X0 : ∀ w ∈ wsX00, w ∈ wsX0_price := by decide +kernel
set_option maxHeartbeats 4000000 in
set_option maxRecDepth 100000 in
theorem c_X0_price (l : Launch) (D : va_G) (cI cZ cR : ClassId) {a_t a_t_values a_t_weight a_t_choices a_t_chooser a_t_owner a_t_held a_t_pick a_t_gain : Nat} {t_count : Int32} {t_values_r : Nat → Int32} {x1 : Int32} {x2 : Int32} {x3 : Int32} {sz : Nat} {out : (Nat → Int32)} (hf : F_X0_price x1 x2 x3 t_values_r = some out) : CV l yX0_price wsX0_price ({ frames := 1, cells := 0, slots := 0, locals := 21 } : Room) D cI cZ cR [.ref a_t, .int x1, .int x2, .int x3] (wd_X0_price cI cZ cR a_t a_t_values a_t_weight a_t_choices a_t_chooser a_t_owner a_t_held a_t_pick a_t_gain t_count t_values_r) sz (wd_X0_price cI cZ cR a_t a_t_values a_t_weight a_t_choices a_t_chooser a_t_owner a_t_held a_t_pick a_t_gain t_count out) := by
  refine met_of (Qf := fun A => qv D cI cZ cR A (wd_X0_price cI cZ cR a_t a_t_values a_t_weight a_t_choices a_t_chooser a_t_owner a_t_held a_t_pick a_t_gain t_count out)) RX0 (by decide +kernel) rfl rfl (Nat.le_of_ble_eq_true rfl) ?_
  intro p e s m below meth c A X hK hA hP hD hS ls hl
  have hl : lv_has ls 4 [(0, .ref a_t), (1, .int x1), (2, .int x2), (3, .int x3)] := hl
  obtain ⟨hx, hb, hml, hr, hown, hts, hlocks, hN⟩ := id X
  unfold F_X0_price at hf
  refine lv_iload_n hx hb dX0_price_0 rfl (lv_at hl 1 rfl) ?_
  refine lv_bipush (v := (8 : Int32)) hx hb dX0_price_1 (by decide) ?_
  obtain ⟨r1, hr2, hf⟩ := bnd hf
  refine wcalli (D := D) (cI := cI) (cZ := cZ) (cR := cR) (wc := (wd_X11_inside cI cZ cR)) (w' := (wd_X11_inside cI cZ cR)) [] hP hD hS hA rfl rfl rfl (rnSN (As := [.int x1, .int (8 : Int32)]) X [] hK hP hD rfl rfl (c_X11_inside l D cI cZ cR hr2) ⟨va_cnB (host := "DivisionHall") 2 hts ggX0_price_X11_inside rfl rfl rfl (hN.2.1 ("DivisionHall$Dealer", 36, yX11_inside, "DivisionHall") (by decide +kernel)) (hts (.initialized RX11) (by decide +kernel)) (by decide +kernel) ⟨Nat.le_of_ble_eq_true rfl, Nat.le_of_ble_eq_true rfl⟩, hts (.static yX11_inside) (by decide +kernel), trivial⟩ rfl hl.1 rfl (Nat.le_of_ble_eq_true rfl) dX0_price_3) (fun H locs hP hD hS => ?_)
  have hP : va_P D vwCl (wd_X0_price cI cZ cR a_t a_t_values a_t_weight a_t_choices a_t_chooser a_t_owner a_t_held a_t_pick a_t_gain t_count t_values_r) H := hP
  have hD : va_D A (wd_X0_price cI cZ cR a_t a_t_values a_t_weight a_t_choices a_t_chooser a_t_owner a_t_held a_t_pick a_t_gain t_count t_values_r) := hD
  refine lv_if_eq (tgt := 30) hx hb dX0_price_6 (by decide) (fun c3 => ?_) (fun c3 => ?_)
  · have hf := ipos c3 hf
    cases hf
    exact retv X hK hP hD hS dX0_price_30
  · have hf := ineg c3 hf
    refine lv_iload_n hx hb dX0_price_9 rfl (lv_at hl 2 rfl) ?_
    refine lv_bipush (v := (6 : Int32)) hx hb dX0_price_10 (by decide) ?_
    obtain ⟨r4, hr5, hf⟩ := bnd hf
    refine wcalli (D := D) (cI := cI) (cZ := cZ) (cR := cR) (wc := (wd_X11_inside cI cZ cR)) (w' := (wd_X11_inside cI cZ cR)) [] hP hD hS hA rfl rfl rfl (rnSN (As := [.int x2, .int (6 : Int32)]) X [] hK hP hD rfl rfl (c_X11_inside l D cI cZ cR hr5) ⟨va_cnB (host := "DivisionHall") 2 hts ggX0_price_X11_inside rfl rfl rfl (hN.2.1 ("DivisionHall$Dealer", 36, yX11_inside, "DivisionHall") (by decide +kernel)) (hts (.initialized RX11) (by decide +kernel)) (by decide +kernel) ⟨Nat.le_of_ble_eq_true rfl, Nat.le_of_ble_eq_true rfl⟩, hts (.static yX11_inside) (by decide +kernel), trivial⟩ rfl hl.1 rfl (Nat.le_of_ble_eq_true rfl) dX0_price_12) (fun H locs hP hD hS => ?_)
    have hP : va_P D vwCl (wd_X0_price cI cZ cR a_t a_t_values a_t_weight a_t_choices a_t_chooser a_t_owner a_t_held a_t_pick a_t_gain t_count t_values_r) H := hP
    have hD : va_D A (wd_X0_price cI cZ cR a_t a_t_values a_t_weight a_t_choices a_t_chooser a_t_owner a_t_held a_t_pick a_t_gain t_count t_values_r) := hD
    refine lv_if_eq (tgt := 30) hx hb dX0_price_15 (by decide) (fun c6 => ?_) (fun c6 => ?_)
    · have hf := ipos c6 hf
      cases hf
      exact retv X hK hP hD hS dX0_price_30
    · have hf := ineg c6 hf
      refine lv_aload_n hx hb dX0_price_18 rfl (lv_at hl 0 rfl) ?_
      refine va_get (D := D) (ci := 0) (v := .ref a_t_values) (C := RX0) (T := TX0) (N := 9) hx hb hts in_X0_price_X0 hown hK hP 0 rfl rfl 0 (by decide) (hts (.fieldLink RX0 9 "DivisionHall$Dealer" "values" "[I") (by decide +kernel)) (fun _ h9 => h9) rfl dX0_price_19 ?_
      refine lv_iload_n hx hb dX0_price_22 rfl (lv_at hl 1 rfl) ?_
      refine lv_bipush (v := (6 : Int32)) hx hb dX0_price_23 (by decide) ?_
      refine lv_imul hx hb dX0_price_25 ?_
      refine lv_iload_n hx hb dX0_price_26 rfl (lv_at hl 2 rfl) ?_
      refine lv_iadd hx hb dX0_price_27 ?_
      refine lv_iload_n hx hb dX0_price_28 rfl (lv_at hl 3 rfl) ?_
      obtain ⟨hi7, hf⟩ := gin_s hf
      refine va_iast hx hb hK hP hD hS 1 0 rfl rfl hi7 dX0_price_29 (fun H locs hP hD hS => ?_)
      have hP : va_P D vwCl (wd_X0_price cI cZ cR a_t a_t_values a_t_weight a_t_choices a_t_chooser a_t_owner a_t_held a_t_pick a_t_gain t_count (upd t_values_r (((x1 * (6 : Int32)) + x2)).toNatClampNeg x3)) H := hP
      have hD : va_D A (wd_X0_price cI cZ cR a_t a_t_values a_t_weight a_t_choices a_t_chooser a_t_owner a_t_held a_t_pick a_t_gain t_count (upd t_values_r (((x1 * (6 : Int32)) + x2)).toNatClampNeg x3)) := hD
      cases hf
      exact retv X hK hP hD hS dX0_price_30

abbrev wd_X0_priceOf (cI cZ cR : ClassId) (a_t a_t_values a_t_weight a_t_choices a_t_chooser a_t_owner a_t_held a_t_pick a_t_gain : Nat) (t_count : Int32) (t_values_r : Nat → Int32) : va_W := [(a_t, oB 0 [.ref a_t_values, .ref a_t_weight, .ref a_t_choices, .ref a_t_chooser, .ref a_t_owner, .ref a_t_held, .ref a_t_pick, .ref a_t_gain, .int t_count]), (a_t_values, aI cI 48 t_values_r)]
set_option maxRecDepth 100000 in
theorem in_X0_priceOf_X0 : ∀ w ∈ wsX00, w ∈ wsX0_priceOf := by decide +kernel
set_option maxHeartbeats 4000000 in
set_option maxRecDepth 100000 in
theorem c_X0_priceOf (l : Launch) (D : va_G) (cI cZ cR : ClassId) {a_t a_t_values a_t_weight a_t_choices a_t_chooser a_t_owner a_t_held a_t_pick a_t_gain : Nat} {t_count : Int32} {t_values_r : Nat → Int32} {x1 : Int32} {x2 : Int32} {sz : Nat} {out : Int32} (hf : F_X0_priceOf x1 x2 t_values_r = some out) : CI l yX0_priceOf wsX0_priceOf ({ frames := 1, cells := 0, slots := 0, locals := 21 } : Room) D cI cZ cR [.ref a_t, .int x1, .int x2] (wd_X0_priceOf cI cZ cR a_t a_t_values a_t_weight a_t_choices a_t_chooser a_t_owner a_t_held a_t_pick a_t_gain t_count t_values_r) sz (out) (wd_X0_priceOf cI cZ cR a_t a_t_values a_t_weight a_t_choices a_t_chooser a_t_owner a_t_held a_t_pick a_t_gain t_count t_values_r) := by
  refine met_of (Qf := fun A => qi D cI cZ cR A (out) (wd_X0_priceOf cI cZ cR a_t a_t_values a_t_weight a_t_choices a_t_chooser a_t_owner a_t_held a_t_pick a_t_gain t_count t_values_r)) RX0 (by decide +kernel) rfl rfl (Nat.le_of_ble_eq_true rfl) ?_
  intro p e s m below meth c A X hK hA hP hD hS ls hl
  have hl : lv_has ls 3 [(0, .ref a_t), (1, .int x1), (2, .int x2)] := hl
  obtain ⟨hx, hb, hml, hr, hown, hts, hlocks, hN⟩ := id X
  unfold F_X0_priceOf at hf
  refine lv_iload_n hx hb dX0_priceOf_0 rfl (lv_at hl 1 rfl) ?_
  refine lv_bipush (v := (8 : Int32)) hx hb dX0_priceOf_1 (by decide) ?_
  obtain ⟨r1, hr2, hf⟩ := bnd hf
  refine wcalli (D := D) (cI := cI) (cZ := cZ) (cR := cR) (wc := (wd_X11_inside cI cZ cR)) (w' := (wd_X11_inside cI cZ cR)) [] hP hD hS hA rfl rfl rfl (rnSN (As := [.int x1, .int (8 : Int32)]) X [] hK hP hD rfl rfl (c_X11_inside l D cI cZ cR hr2) ⟨va_cnB (host := "DivisionHall") 2 hts ggX0_priceOf_X11_inside rfl rfl rfl (hN.2.1 ("DivisionHall$Dealer", 36, yX11_inside, "DivisionHall") (by decide +kernel)) (hts (.initialized RX11) (by decide +kernel)) (by decide +kernel) ⟨Nat.le_of_ble_eq_true rfl, Nat.le_of_ble_eq_true rfl⟩, hts (.static yX11_inside) (by decide +kernel), trivial⟩ rfl hl.1 rfl (Nat.le_of_ble_eq_true rfl) dX0_priceOf_3) (fun H locs hP hD hS => ?_)
  have hP : va_P D vwCl (wd_X0_priceOf cI cZ cR a_t a_t_values a_t_weight a_t_choices a_t_chooser a_t_owner a_t_held a_t_pick a_t_gain t_count t_values_r) H := hP
  have hD : va_D A (wd_X0_priceOf cI cZ cR a_t a_t_values a_t_weight a_t_choices a_t_chooser a_t_owner a_t_held a_t_pick a_t_gain t_count t_values_r) := hD
  refine lv_if_eq (tgt := 32) hx hb dX0_priceOf_6 (by decide) (fun c3 => ?_) (fun c3 => ?_)
  · have hf := ipos c3 hf
    refine lv_iconst (v := (0 : Int32)) hx hb dX0_priceOf_32 (by decide) ?_
    cases hf
    exact reti X hK hP hD hS dX0_priceOf_33
  · have hf := ineg c3 hf
    refine lv_iload_n hx hb dX0_priceOf_9 rfl (lv_at hl 2 rfl) ?_
    refine lv_bipush (v := (6 : Int32)) hx hb dX0_priceOf_10 (by decide) ?_
    obtain ⟨r4, hr5, hf⟩ := bnd hf
    refine wcalli (D := D) (cI := cI) (cZ := cZ) (cR := cR) (wc := (wd_X11_inside cI cZ cR)) (w' := (wd_X11_inside cI cZ cR)) [] hP hD hS hA rfl rfl rfl (rnSN (As := [.int x2, .int (6 : Int32)]) X [] hK hP hD rfl rfl (c_X11_inside l D cI cZ cR hr5) ⟨va_cnB (host := "DivisionHall") 2 hts ggX0_priceOf_X11_inside rfl rfl rfl (hN.2.1 ("DivisionHall$Dealer", 36, yX11_inside, "DivisionHall") (by decide +kernel)) (hts (.initialized RX11) (by decide +kernel)) (by decide +kernel) ⟨Nat.le_of_ble_eq_true rfl, Nat.le_of_ble_eq_true rfl⟩, hts (.static yX11_inside) (by decide +kernel), trivial⟩ rfl hl.1 rfl (Nat.le_of_ble_eq_true rfl) dX0_priceOf_12) (fun H locs hP hD hS => ?_)
    have hP : va_P D vwCl (wd_X0_priceOf cI cZ cR a_t a_t_values a_t_weight a_t_choices a_t_chooser a_t_owner a_t_held a_t_pick a_t_gain t_count t_values_r) H := hP
    have hD : va_D A (wd_X0_priceOf cI cZ cR a_t a_t_values a_t_weight a_t_choices a_t_chooser a_t_owner a_t_held a_t_pick a_t_gain t_count t_values_r) := hD
    refine lv_if_eq (tgt := 32) hx hb dX0_priceOf_15 (by decide) (fun c6 => ?_) (fun c6 => ?_)
    · have hf := ipos c6 hf
      refine lv_iconst (v := (0 : Int32)) hx hb dX0_priceOf_32 (by decide) ?_
      cases hf
      exact reti X hK hP hD hS dX0_priceOf_33
    · have hf := ineg c6 hf
      refine lv_aload_n hx hb dX0_priceOf_18 rfl (lv_at hl 0 rfl) ?_
      refine va_get (D := D) (ci := 0) (v := .ref a_t_values) (C := RX0) (T := TX0) (N := 9) hx hb hts in_X0_priceOf_X0 hown hK hP 0 rfl rfl 0 (by decide) (hts (.fieldLink RX0 9 "DivisionHall$Dealer" "values" "[I") (by decide +kernel)) (fun _ h9 => h9) rfl dX0_priceOf_19 ?_
      refine lv_iload_n hx hb dX0_priceOf_22 rfl (lv_at hl 1 rfl) ?_
      refine lv_bipush (v := (6 : Int32)) hx hb dX0_priceOf_23 (by decide) ?_
      refine lv_imul hx hb dX0_priceOf_25 ?_
      refine lv_iload_n hx hb dX0_priceOf_26 rfl (lv_at hl 2 rfl) ?_
      refine lv_iadd hx hb dX0_priceOf_27 ?_
      obtain ⟨hi7, hf⟩ := gin_s hf
      refine va_iald hx hb hK hP 1 0 rfl rfl hi7 dX0_priceOf_28 ?_
      refine lv_goto (tgt := 33) hx hb dX0_priceOf_29 (by decide) ?_
      cases hf
      exact reti X hK hP hD hS dX0_priceOf_33

abbrev wd_X0_weigh (cI cZ cR : ClassId) (a_p2 a_p2_weight a_p2_membersOf a_t a_t_values a_t_weight a_t_choices a_t_chooser a_t_owner a_t_held a_t_pick a_t_gain : Nat) (p2_in p2_all t_count : Int32) (p2_membersOf_r : Nat → Int32) (p2_weight_r : Nat → Int32) (t_weight_r : Nat → Int32) : va_W := [(a_p2, oB 7 [.ref a_p2_weight, .ref a_p2_membersOf, .int p2_in, .int p2_all]), (a_t, oB 0 [.ref a_t_values, .ref a_t_weight, .ref a_t_choices, .ref a_t_chooser, .ref a_t_owner, .ref a_t_held, .ref a_t_pick, .ref a_t_gain, .int t_count]), (a_p2_membersOf, aI cI 6 p2_membersOf_r), (a_p2_weight, aI cI 10 p2_weight_r), (a_t_weight, aI cI 6 t_weight_r)]
set_option maxRecDepth 100000 in
theorem in_X0_weigh_X0 : ∀ w ∈ wsX00, w ∈ wsX0_weigh := by decide +kernel
set_option maxHeartbeats 4000000 in
set_option maxRecDepth 100000 in
theorem w_X0_weigh_41 {p : Program} {l : Launch} {e : Env} {s : State} {m : MethodId} {args : Array Value} {below : List Frame} {meth : Method} {c : Code} {D : va_G} {cI cZ cR : ClassId} {A : Nat → Prop} {a_p2 a_p2_weight a_p2_membersOf a_t a_t_values a_t_weight a_t_choices a_t_chooser a_t_owner a_t_held a_t_pick a_t_gain : Nat} {p2_in : Int32} {p2_all : Int32} {t_count : Int32} {p2_membersOf_r : Nat → Int32} {p2_weight_r : Nat → Int32} {x1 : Int32} {rec5 : Int32 → Int32 → (Nat → Int32) → Option (Int32 × (Nat → Int32))} {out : Int32 × (Nat → Int32)} (X : cx p s m args meth c cX0_weigh 5 (some .boolean) RX0 wsX0_weigh) (hK : va_K D vwCl (ty3 cI cZ cR) s) (hA : ∀ q, s.heap.size ≤ q → A q) (hrec5 : ∀ (x3 : Int32) (x4 : Int32) (t_weight_r : Nat → Int32), rec5 x3 x4 t_weight_r = some out → ∀ (H : Heap) (locs : List Loc), va_P D vwCl (wd_X0_weigh cI cZ cR a_p2 a_p2_weight a_p2_membersOf a_t a_t_values a_t_weight a_t_choices a_t_chooser a_t_owner a_t_held a_t_pick a_t_gain p2_in p2_all t_count p2_membersOf_r p2_weight_r t_weight_r) H → va_D A (wd_X0_weigh cI cZ cR a_p2 a_p2_weight a_p2_membersOf a_t a_t_values a_t_weight a_t_choices a_t_chooser a_t_owner a_t_held a_t_pick a_t_gain p2_in p2_all t_count p2_membersOf_r p2_weight_r t_weight_r) → va_S A s.heap H locs → ∀ (ls : Array Slot), lv_has ls 5 [(0, .ref a_t), (1, .int x1), (2, .ref a_p2), (3, .int x3), (4, .int x4)] → W p l e (headSpec wsX0_weigh ({ frames := 1, cells := 0, slots := 0, locals := 23 } : Room)).room s m args below meth c H locs 0 0 (MQ below (qi D cI cZ cR A (out.1) (wd_X0_weigh cI cZ cR a_p2 a_p2_weight a_p2_membersOf a_t a_t_values a_t_weight a_t_choices a_t_chooser a_t_owner a_t_held a_t_pick a_t_gain p2_in p2_all t_count p2_membersOf_r p2_weight_r (out.2))) args s 0 0 A) (F0 m 5 ls [])) : ∀ (x3 : Int32) (x4 : Int32) (s0 : Int32) (s1 : Int32) (t_weight_r : Nat → Int32), F_X0_weigh_41 x1 p2_membersOf_r p2_weight_r rec5 x3 x4 s0 s1 t_weight_r = some out → ∀ (H : Heap) (locs : List Loc), va_P D vwCl (wd_X0_weigh cI cZ cR a_p2 a_p2_weight a_p2_membersOf a_t a_t_values a_t_weight a_t_choices a_t_chooser a_t_owner a_t_held a_t_pick a_t_gain p2_in p2_all t_count p2_membersOf_r p2_weight_r t_weight_r) H → va_D A (wd_X0_weigh cI cZ cR a_p2 a_p2_weight a_p2_membersOf a_t a_t_values a_t_weight a_t_choices a_t_chooser a_t_owner a_t_held a_t_pick a_t_gain p2_in p2_all t_count p2_membersOf_r p2_weight_r t_weight_r) → va_S A s.heap H locs → ∀ (ls : Array Slot), lv_has ls 5 [(0, .ref a_t), (1, .int x1), (2, .ref a_p2), (3, .int x3), (4, .int x4)] → W p l e (headSpec wsX0_weigh ({ frames := 1, cells := 0, slots := 0, locals := 23 } : Room)).room s m args below meth c H locs 0 0 (MQ below (qi D cI cZ cR A (out.1) (wd_X0_weigh cI cZ cR a_p2 a_p2_weight a_p2_membersOf a_t a_t_values a_t_weight a_t_choices a_t_chooser a_t_owner a_t_held a_t_pick a_t_gain p2_in p2_all t_count p2_membersOf_r p2_weight_r (out.2))) args s 0 0 A) (F0 m 41 ls [.int s0, .int s1, .ref a_t_weight]) := by
  obtain ⟨hx, hb, hml, hr, hown, hts, hlocks, hN⟩ := id X
  intro x3 x4 s0 s1 t_weight_r hf H locs hP hD hS ls hl
  unfold F_X0_weigh_41 at hf
  obtain ⟨hi10, hf⟩ := gin_s hf
  refine va_iast hx hb hK hP hD hS 4 0 rfl rfl hi10 dX0_weigh_41 (fun H locs hP hD hS => ?_)
  have hP : va_P D vwCl (wd_X0_weigh cI cZ cR a_p2 a_p2_weight a_p2_membersOf a_t a_t_values a_t_weight a_t_choices a_t_chooser a_t_owner a_t_held a_t_pick a_t_gain p2_in p2_all t_count p2_membersOf_r p2_weight_r (upd t_weight_r (s1).toNatClampNeg s0)) H := hP
  have hD : va_D A (wd_X0_weigh cI cZ cR a_p2 a_p2_weight a_p2_membersOf a_t a_t_values a_t_weight a_t_choices a_t_chooser a_t_owner a_t_held a_t_pick a_t_gain p2_in p2_all t_count p2_membersOf_r p2_weight_r (upd t_weight_r (s1).toNatClampNeg s0)) := hD
  refine lv_iload_n hx hb dX0_weigh_42 rfl (lv_at hl 1 rfl) ?_
  refine lv_iload hx hb dX0_weigh_43 (lv_at hl 4 rfl) ?_
  obtain ⟨r11, hr12, hf⟩ := bnd hf
  refine wcalli (D := D) (cI := cI) (cZ := cZ) (cR := cR) (wc := (wd_X11_has cI cZ cR)) (w' := (wd_X11_has cI cZ cR)) [] hP hD hS hA rfl rfl rfl (rnSN (As := [.int x1, .int x4]) X [] hK hP hD rfl rfl (c_X11_has l D cI cZ cR hr12) ⟨va_cnB (host := "DivisionHall") 2 hts ggX0_weigh_X11_has rfl rfl rfl (hN.2.1 ("DivisionHall$Dealer", 40, yX11_has, "DivisionHall") (by decide +kernel)) (hts (.initialized RX11) (by decide +kernel)) (by decide +kernel) ⟨Nat.le_of_ble_eq_true rfl, Nat.le_of_ble_eq_true rfl⟩, hts (.static yX11_has) (by decide +kernel), trivial⟩ rfl hl.1 rfl (Nat.le_of_ble_eq_true rfl) dX0_weigh_45) (fun H locs hP hD hS => ?_)
  have hP : va_P D vwCl (wd_X0_weigh cI cZ cR a_p2 a_p2_weight a_p2_membersOf a_t a_t_values a_t_weight a_t_choices a_t_chooser a_t_owner a_t_held a_t_pick a_t_gain p2_in p2_all t_count p2_membersOf_r p2_weight_r (upd t_weight_r (s1).toNatClampNeg s0)) H := hP
  have hD : va_D A (wd_X0_weigh cI cZ cR a_p2 a_p2_weight a_p2_membersOf a_t a_t_values a_t_weight a_t_choices a_t_chooser a_t_owner a_t_held a_t_pick a_t_gain p2_in p2_all t_count p2_membersOf_r p2_weight_r (upd t_weight_r (s1).toNatClampNeg s0)) := hD
  refine lv_if_eq (tgt := 63) hx hb dX0_weigh_48 (by decide) (fun c13 => ?_) (fun c13 => ?_)
  · have hf := ipos c13 hf
    refine lv_iinc (v := (x4 + (1 : Int32))) (lv' := [(4, .int (x4 + (1 : Int32))), (0, .ref a_t), (1, .int x1), (2, .ref a_p2), (3, .int x3)]) hx hb dX0_weigh_63 hl (k := 4) rfl rfl (by decide) rfl (fun ls hl => ?_)
    refine lv_goto (tgt := 5) hx hb dX0_weigh_66 (by decide) ?_
    exact hrec5 x3 (x4 + (1 : Int32)) (upd t_weight_r (s1).toNatClampNeg s0) hf _ _ hP hD hS _ (lv_sub hl [1, 2, 3, 4, 0] rfl)
  · have hf := ineg c13 hf
    refine lv_aload_n hx hb dX0_weigh_51 rfl (lv_at hl 0 rfl) ?_
    refine va_get (D := D) (ci := 0) (v := .ref a_t_weight) (C := RX0) (T := TX0) (N := 9) hx hb hts in_X0_weigh_X0 hown hK hP 1 rfl rfl 1 (by decide) (hts (.fieldLink RX0 15 "DivisionHall$Dealer" "weight" "[I") (by decide +kernel)) (fun _ h9 => h9) rfl dX0_weigh_52 ?_
    refine lv_iload hx hb dX0_weigh_55 (lv_at hl 4 rfl) ?_
    obtain ⟨hi14, hf⟩ := gin_s hf
    refine va_iald hx hb hK hP 4 0 rfl rfl hi14 dX0_weigh_57 ?_
    refine lv_if_ne (tgt := 63) hx hb dX0_weigh_58 (by decide) (fun c15 => ?_) (fun c15 => ?_)
    · have hf := ineg c15 hf
      refine lv_iinc (v := (x4 + (1 : Int32))) (lv' := [(4, .int (x4 + (1 : Int32))), (0, .ref a_t), (1, .int x1), (2, .ref a_p2), (3, .int x3)]) hx hb dX0_weigh_63 hl (k := 4) rfl rfl (by decide) rfl (fun ls hl => ?_)
      refine lv_goto (tgt := 5) hx hb dX0_weigh_66 (by decide) ?_
      exact hrec5 x3 (x4 + (1 : Int32)) (upd t_weight_r (s1).toNatClampNeg s0) hf _ _ hP hD hS _ (lv_sub hl [1, 2, 3, 4, 0] rfl)
    · have hf := ipos c15 hf
      refine lv_iconst (v := (0 : Int32)) hx hb dX0_weigh_61 (by decide) ?_
      refine lv_istore_n (lv' := [(3, .int (0 : Int32)), (0, .ref a_t), (1, .int x1), (2, .ref a_p2), (4, .int x4)]) hx hb dX0_weigh_62 rfl hl (by decide) rfl (fun ls hl => ?_)
      refine lv_iinc (v := (x4 + (1 : Int32))) (lv' := [(4, .int (x4 + (1 : Int32))), (3, .int (0 : Int32)), (0, .ref a_t), (1, .int x1), (2, .ref a_p2)]) hx hb dX0_weigh_63 hl (k := 4) rfl rfl (by decide) rfl (fun ls hl => ?_)
      refine lv_goto (tgt := 5) hx hb dX0_weigh_66 (by decide) ?_
      exact hrec5 (0 : Int32) (x4 + (1 : Int32)) (upd t_weight_r (s1).toNatClampNeg s0) hf _ _ hP hD hS _ (lv_sub hl [2, 3, 4, 1, 0] rfl)
set_option maxHeartbeats 4000000 in
set_option maxRecDepth 100000 in
theorem w_X0_weigh_5 {p : Program} {l : Launch} {e : Env} {s : State} {m : MethodId} {args : Array Value} {below : List Frame} {meth : Method} {c : Code} {D : va_G} {cI cZ cR : ClassId} {A : Nat → Prop} {a_p2 a_p2_weight a_p2_membersOf a_t a_t_values a_t_weight a_t_choices a_t_chooser a_t_owner a_t_held a_t_pick a_t_gain : Nat} {p2_in : Int32} {p2_all : Int32} {t_count : Int32} {p2_membersOf_r : Nat → Int32} {p2_weight_r : Nat → Int32} {x1 : Int32} {out : Int32 × (Nat → Int32)} (X : cx p s m args meth c cX0_weigh 5 (some .boolean) RX0 wsX0_weigh) (hK : va_K D vwCl (ty3 cI cZ cR) s) (hA : ∀ q, s.heap.size ≤ q → A q) : ∀ (n : Nat) (x3 : Int32) (x4 : Int32) (t_weight_r : Nat → Int32), F_X0_weigh_5 x1 p2_membersOf_r p2_weight_r n x3 x4 t_weight_r = some out → ∀ (H : Heap) (locs : List Loc), va_P D vwCl (wd_X0_weigh cI cZ cR a_p2 a_p2_weight a_p2_membersOf a_t a_t_values a_t_weight a_t_choices a_t_chooser a_t_owner a_t_held a_t_pick a_t_gain p2_in p2_all t_count p2_membersOf_r p2_weight_r t_weight_r) H → va_D A (wd_X0_weigh cI cZ cR a_p2 a_p2_weight a_p2_membersOf a_t a_t_values a_t_weight a_t_choices a_t_chooser a_t_owner a_t_held a_t_pick a_t_gain p2_in p2_all t_count p2_membersOf_r p2_weight_r t_weight_r) → va_S A s.heap H locs → ∀ (ls : Array Slot), lv_has ls 5 [(0, .ref a_t), (1, .int x1), (2, .ref a_p2), (3, .int x3), (4, .int x4)] → W p l e (headSpec wsX0_weigh ({ frames := 1, cells := 0, slots := 0, locals := 23 } : Room)).room s m args below meth c H locs 0 0 (MQ below (qi D cI cZ cR A (out.1) (wd_X0_weigh cI cZ cR a_p2 a_p2_weight a_p2_membersOf a_t a_t_values a_t_weight a_t_choices a_t_chooser a_t_owner a_t_held a_t_pick a_t_gain p2_in p2_all t_count p2_membersOf_r p2_weight_r (out.2))) args s 0 0 A) (F0 m 5 ls []) := by
  obtain ⟨hx, hb, hml, hr, hown, hts, hlocks, hN⟩ := id X
  intro n
  induction n with
  | zero =>
    intro x3 x4 t_weight_r hf
    cases (show (none : Option (Int32 × (Nat → Int32))) = some out from hf)
  | succ n ih =>
    intro x3 x4 t_weight_r hf H locs hP hD hS ls hl
    rw [F_X0_weigh_5] at hf
    refine lv_iload hx hb dX0_weigh_5 (lv_at hl 4 rfl) ?_
    refine lv_bipush (v := (6 : Int32)) hx hb dX0_weigh_7 (by decide) ?_
    refine lv_icmp_ge (tgt := 69) hx hb dX0_weigh_9 (by decide) (fun c1 => ?_) (fun c1 => ?_)
    · have hf := ipos c1 hf
      refine lv_iload_n hx hb dX0_weigh_69 rfl (lv_at hl 3 rfl) ?_
      obtain ⟨hb2, hf⟩ := gb_s hf
      cases hf
      exact retz hb2 X hK hP hD hS dX0_weigh_70
    · have hf := ineg c1 hf
      refine lv_aload_n hx hb dX0_weigh_12 rfl (lv_at hl 0 rfl) ?_
      refine va_get (D := D) (ci := 0) (v := .ref a_t_weight) (C := RX0) (T := TX0) (N := 9) hx hb hts in_X0_weigh_X0 hown hK hP 1 rfl rfl 1 (by decide) (hts (.fieldLink RX0 15 "DivisionHall$Dealer" "weight" "[I") (by decide +kernel)) (fun _ h9 => h9) rfl dX0_weigh_13 ?_
      refine lv_iload hx hb dX0_weigh_16 (lv_at hl 4 rfl) ?_
      refine lv_iload_n hx hb dX0_weigh_18 rfl (lv_at hl 1 rfl) ?_
      refine lv_iload hx hb dX0_weigh_19 (lv_at hl 4 rfl) ?_
      obtain ⟨r3, hr4, hf⟩ := bnd hf
      refine wcalli (D := D) (cI := cI) (cZ := cZ) (cR := cR) (wc := (wd_X11_has cI cZ cR)) (w' := (wd_X11_has cI cZ cR)) [] hP hD hS hA rfl rfl rfl (rnSN (As := [.int x1, .int x4]) X [] hK hP hD rfl rfl (c_X11_has l D cI cZ cR hr4) ⟨va_cnB (host := "DivisionHall") 2 hts ggX0_weigh_X11_has rfl rfl rfl (hN.2.1 ("DivisionHall$Dealer", 40, yX11_has, "DivisionHall") (by decide +kernel)) (hts (.initialized RX11) (by decide +kernel)) (by decide +kernel) ⟨Nat.le_of_ble_eq_true rfl, Nat.le_of_ble_eq_true rfl⟩, hts (.static yX11_has) (by decide +kernel), trivial⟩ rfl hl.1 rfl (Nat.le_of_ble_eq_true rfl) dX0_weigh_21) (fun H locs hP hD hS => ?_)
      have hP : va_P D vwCl (wd_X0_weigh cI cZ cR a_p2 a_p2_weight a_p2_membersOf a_t a_t_values a_t_weight a_t_choices a_t_chooser a_t_owner a_t_held a_t_pick a_t_gain p2_in p2_all t_count p2_membersOf_r p2_weight_r t_weight_r) H := hP
      have hD : va_D A (wd_X0_weigh cI cZ cR a_p2 a_p2_weight a_p2_membersOf a_t a_t_values a_t_weight a_t_choices a_t_chooser a_t_owner a_t_held a_t_pick a_t_gain p2_in p2_all t_count p2_membersOf_r p2_weight_r t_weight_r) := hD
      refine lv_if_eq (tgt := 40) hx hb dX0_weigh_24 (by decide) (fun c5 => ?_) (fun c5 => ?_)
      · have hf := ipos c5 hf
        refine lv_iconst (v := (0 : Int32)) hx hb dX0_weigh_40 (by decide) ?_
        exact w_X0_weigh_41 X hK hA ih x3 x4 (0 : Int32) x4 t_weight_r hf _ _ hP hD hS _ (lv_sub hl [0, 1, 2, 3, 4] rfl)
      · have hf := ineg c5 hf
        refine lv_aload_n hx hb dX0_weigh_27 rfl (lv_at hl 2 rfl) ?_
        refine lv_aload_n hx hb dX0_weigh_28 rfl (lv_at hl 2 rfl) ?_
        refine lv_iload hx hb dX0_weigh_29 (lv_at hl 4 rfl) ?_
        obtain ⟨r6, hr7, hf⟩ := bnd hf
        refine wcalli (D := D) (cI := cI) (cZ := cZ) (cR := cR) (wc := (wd_X7_ofBloc cI cZ cR a_p2 a_p2_weight a_p2_membersOf p2_in p2_all p2_membersOf_r)) (w' := (wd_X7_ofBloc cI cZ cR a_p2 a_p2_weight a_p2_membersOf p2_in p2_all p2_membersOf_r)) [0, 2] hP hD hS hA rfl rfl rfl (rnV (As := [.int x4]) (ci := 7) (q0 := 0) X [0, 2] hK hP hD rfl rfl rfl rfl (c_X7_ofBloc l D cI cZ cR hr7) (cwV 1 hts gX0_weigh_X7_ofBloc rfl rfl rfl (by decide +kernel) ⟨Nat.le_of_ble_eq_true rfl, Nat.le_of_ble_eq_true rfl⟩) rfl hl.1 rfl (Nat.le_of_ble_eq_true rfl) dX0_weigh_31) (fun H locs hP hD hS => ?_)
        have hP : va_P D vwCl (wd_X0_weigh cI cZ cR a_p2 a_p2_weight a_p2_membersOf a_t a_t_values a_t_weight a_t_choices a_t_chooser a_t_owner a_t_held a_t_pick a_t_gain p2_in p2_all t_count p2_membersOf_r p2_weight_r t_weight_r) H := hP
        have hD : va_D A (wd_X0_weigh cI cZ cR a_p2 a_p2_weight a_p2_membersOf a_t a_t_values a_t_weight a_t_choices a_t_chooser a_t_owner a_t_held a_t_pick a_t_gain p2_in p2_all t_count p2_membersOf_r p2_weight_r t_weight_r) := hD
        obtain ⟨r8, hr9, hf⟩ := bnd hf
        refine wcalli (D := D) (cI := cI) (cZ := cZ) (cR := cR) (wc := (wd_X7_weightOf cI cZ cR a_p2 a_p2_weight a_p2_membersOf p2_in p2_all p2_weight_r)) (w' := (wd_X7_weightOf cI cZ cR a_p2 a_p2_weight a_p2_membersOf p2_in p2_all p2_weight_r)) [0, 3] hP hD hS hA rfl rfl rfl (rnV (As := [.int r6]) (ci := 7) (q0 := 0) X [0, 3] hK hP hD rfl rfl rfl rfl (c_X7_weightOf l D cI cZ cR hr9) (cwV 1 hts gX0_weigh_X7_weightOf rfl rfl rfl (by decide +kernel) ⟨Nat.le_of_ble_eq_true rfl, Nat.le_of_ble_eq_true rfl⟩) rfl hl.1 rfl (Nat.le_of_ble_eq_true rfl) dX0_weigh_34) (fun H locs hP hD hS => ?_)
        have hP : va_P D vwCl (wd_X0_weigh cI cZ cR a_p2 a_p2_weight a_p2_membersOf a_t a_t_values a_t_weight a_t_choices a_t_chooser a_t_owner a_t_held a_t_pick a_t_gain p2_in p2_all t_count p2_membersOf_r p2_weight_r t_weight_r) H := hP
        have hD : va_D A (wd_X0_weigh cI cZ cR a_p2 a_p2_weight a_p2_membersOf a_t a_t_values a_t_weight a_t_choices a_t_chooser a_t_owner a_t_held a_t_pick a_t_gain p2_in p2_all t_count p2_membersOf_r p2_weight_r t_weight_r) := hD
        refine lv_goto (tgt := 41) hx hb dX0_weigh_37 (by decide) ?_
        exact w_X0_weigh_41 X hK hA ih x3 x4 r8 x4 t_weight_r hf _ _ hP hD hS _ (lv_sub hl [0, 1, 2, 3, 4] rfl)
set_option maxHeartbeats 4000000 in
set_option maxRecDepth 100000 in
theorem c_X0_weigh (l : Launch) (D : va_G) (cI cZ cR : ClassId) {a_p2 a_p2_weight a_p2_membersOf a_t a_t_values a_t_weight a_t_choices a_t_chooser a_t_owner a_t_held a_t_pick a_t_gain : Nat} {p2_in : Int32} {p2_all : Int32} {t_count : Int32} {p2_membersOf_r : Nat → Int32} {p2_weight_r : Nat → Int32} {t_weight_r : Nat → Int32} {x1 : Int32} {sz : Nat} {out : Int32 × (Nat → Int32)} (hf : F_X0_weigh x1 p2_membersOf_r p2_weight_r t_weight_r = some out) : CI l yX0_weigh wsX0_weigh ({ frames := 1, cells := 0, slots := 0, locals := 23 } : Room) D cI cZ cR [.ref a_t, .int x1, .ref a_p2] (wd_X0_weigh cI cZ cR a_p2 a_p2_weight a_p2_membersOf a_t a_t_values a_t_weight a_t_choices a_t_chooser a_t_owner a_t_held a_t_pick a_t_gain p2_in p2_all t_count p2_membersOf_r p2_weight_r t_weight_r) sz (out.1) (wd_X0_weigh cI cZ cR a_p2 a_p2_weight a_p2_membersOf a_t a_t_values a_t_weight a_t_choices a_t_chooser a_t_owner a_t_held a_t_pick a_t_gain p2_in p2_all t_count p2_membersOf_r p2_weight_r (out.2)) := by
  refine met_of (Qf := fun A => qi D cI cZ cR A (out.1) (wd_X0_weigh cI cZ cR a_p2 a_p2_weight a_p2_membersOf a_t a_t_values a_t_weight a_t_choices a_t_chooser a_t_owner a_t_held a_t_pick a_t_gain p2_in p2_all t_count p2_membersOf_r p2_weight_r (out.2))) RX0 (by decide +kernel) rfl rfl (Nat.le_of_ble_eq_true rfl) ?_
  intro p e s m below meth c A X hK hA hP hD hS ls hl
  have hl : lv_has ls 5 [(0, .ref a_t), (1, .int x1), (2, .ref a_p2)] := hl
  obtain ⟨hx, hb, hml, hr, hown, hts, hlocks, hN⟩ := id X
  unfold F_X0_weigh at hf
  refine lv_iconst (v := (1 : Int32)) hx hb dX0_weigh_0 (by decide) ?_
  refine lv_istore_n (lv' := [(3, .int (1 : Int32)), (0, .ref a_t), (1, .int x1), (2, .ref a_p2)]) hx hb dX0_weigh_1 rfl hl (by decide) rfl (fun ls hl => ?_)
  refine lv_iconst (v := (0 : Int32)) hx hb dX0_weigh_2 (by decide) ?_
  refine lv_istore (lv' := [(4, .int (0 : Int32)), (3, .int (1 : Int32)), (0, .ref a_t), (1, .int x1), (2, .ref a_p2)]) hx hb dX0_weigh_3 hl (by decide) rfl (fun ls hl => ?_)
  exact w_X0_weigh_5 X hK hA _ (1 : Int32) (0 : Int32) t_weight_r hf _ _ hP hD hS _ (lv_sub hl [2, 3, 4, 1, 0] rfl)

abbrev wd_X0_isAhead (cI cZ cR : ClassId) (a_t a_t_values a_t_weight a_t_choices a_t_chooser a_t_owner a_t_held a_t_pick a_t_gain : Nat) (t_count : Int32) (t_choices_r : Nat → Int32) (t_weight_r : Nat → Int32) : va_W := [(a_t, oB 0 [.ref a_t_values, .ref a_t_weight, .ref a_t_choices, .ref a_t_chooser, .ref a_t_owner, .ref a_t_held, .ref a_t_pick, .ref a_t_gain, .int t_count]), (a_t_choices, aI cI 6 t_choices_r), (a_t_weight, aI cI 6 t_weight_r)]
set_option maxRecDepth 100000 in
theorem in_X0_isAhead_X0 : ∀ w ∈ wsX00, w ∈ wsX0_isAhead := by decide +kernel
set_option maxHeartbeats 4000000 in
set_option maxRecDepth 100000 in
theorem c_X0_isAhead (l : Launch) (D : va_G) (cI cZ cR : ClassId) {a_t a_t_values a_t_weight a_t_choices a_t_chooser a_t_owner a_t_held a_t_pick a_t_gain : Nat} {t_count : Int32} {t_choices_r : Nat → Int32} {t_weight_r : Nat → Int32} {x1 : Int32} {x2 : Int32} {x3 : Int32} {sz : Nat} {out : Int32} (hf : F_X0_isAhead x1 x2 x3 t_choices_r t_weight_r = some out) : CI l yX0_isAhead wsX0_isAhead ({ frames := 1, cells := 0, slots := 0, locals := 21 } : Room) D cI cZ cR [.ref a_t, .int x1, .int x2, .int x3] (wd_X0_isAhead cI cZ cR a_t a_t_values a_t_weight a_t_choices a_t_chooser a_t_owner a_t_held a_t_pick a_t_gain t_count t_choices_r t_weight_r) sz (out) (wd_X0_isAhead cI cZ cR a_t a_t_values a_t_weight a_t_choices a_t_chooser a_t_owner a_t_held a_t_pick a_t_gain t_count t_choices_r t_weight_r) := by
  refine met_of (Qf := fun A => qi D cI cZ cR A (out) (wd_X0_isAhead cI cZ cR a_t a_t_values a_t_weight a_t_choices a_t_chooser a_t_owner a_t_held a_t_pick a_t_gain t_count t_choices_r t_weight_r)) RX0 (by decide +kernel) rfl rfl (Nat.le_of_ble_eq_true rfl) ?_
  intro p e s m below meth c A X hK hA hP hD hS ls hl
  have hl : lv_has ls 6 [(0, .ref a_t), (1, .int x1), (2, .int x2), (3, .int x3)] := hl
  obtain ⟨hx, hb, hml, hr, hown, hts, hlocks, hN⟩ := id X
  unfold F_X0_isAhead at hf
  refine lv_iload_n hx hb dX0_isAhead_0 rfl (lv_at hl 1 rfl) ?_
  refine lv_bipush (v := (6 : Int32)) hx hb dX0_isAhead_1 (by decide) ?_
  obtain ⟨r1, hr2, hf⟩ := bnd hf
  refine wcalli (D := D) (cI := cI) (cZ := cZ) (cR := cR) (wc := (wd_X11_inside cI cZ cR)) (w' := (wd_X11_inside cI cZ cR)) [] hP hD hS hA rfl rfl rfl (rnSN (As := [.int x1, .int (6 : Int32)]) X [] hK hP hD rfl rfl (c_X11_inside l D cI cZ cR hr2) ⟨va_cnB (host := "DivisionHall") 2 hts ggX0_isAhead_X11_inside rfl rfl rfl (hN.2.1 ("DivisionHall$Dealer", 36, yX11_inside, "DivisionHall") (by decide +kernel)) (hts (.initialized RX11) (by decide +kernel)) (by decide +kernel) ⟨Nat.le_of_ble_eq_true rfl, Nat.le_of_ble_eq_true rfl⟩, hts (.static yX11_inside) (by decide +kernel), trivial⟩ rfl hl.1 rfl (Nat.le_of_ble_eq_true rfl) dX0_isAhead_3) (fun H locs hP hD hS => ?_)
  have hP : va_P D vwCl (wd_X0_isAhead cI cZ cR a_t a_t_values a_t_weight a_t_choices a_t_chooser a_t_owner a_t_held a_t_pick a_t_gain t_count t_choices_r t_weight_r) H := hP
  have hD : va_D A (wd_X0_isAhead cI cZ cR a_t a_t_values a_t_weight a_t_choices a_t_chooser a_t_owner a_t_held a_t_pick a_t_gain t_count t_choices_r t_weight_r) := hD
  refine lv_if_eq (tgt := 18) hx hb dX0_isAhead_6 (by decide) (fun c3 => ?_) (fun c3 => ?_)
  · have hf := ipos c3 hf
    refine lv_iconst (v := (0 : Int32)) hx hb dX0_isAhead_18 (by decide) ?_
    cases hf
    exact retz (Or.inl rfl) X hK hP hD hS dX0_isAhead_19
  · have hf := ineg c3 hf
    refine lv_iload_n hx hb dX0_isAhead_9 rfl (lv_at hl 2 rfl) ?_
    refine lv_bipush (v := (6 : Int32)) hx hb dX0_isAhead_10 (by decide) ?_
    obtain ⟨r4, hr5, hf⟩ := bnd hf
    refine wcalli (D := D) (cI := cI) (cZ := cZ) (cR := cR) (wc := (wd_X11_inside cI cZ cR)) (w' := (wd_X11_inside cI cZ cR)) [] hP hD hS hA rfl rfl rfl (rnSN (As := [.int x2, .int (6 : Int32)]) X [] hK hP hD rfl rfl (c_X11_inside l D cI cZ cR hr5) ⟨va_cnB (host := "DivisionHall") 2 hts ggX0_isAhead_X11_inside rfl rfl rfl (hN.2.1 ("DivisionHall$Dealer", 36, yX11_inside, "DivisionHall") (by decide +kernel)) (hts (.initialized RX11) (by decide +kernel)) (by decide +kernel) ⟨Nat.le_of_ble_eq_true rfl, Nat.le_of_ble_eq_true rfl⟩, hts (.static yX11_inside) (by decide +kernel), trivial⟩ rfl hl.1 rfl (Nat.le_of_ble_eq_true rfl) dX0_isAhead_12) (fun H locs hP hD hS => ?_)
    have hP : va_P D vwCl (wd_X0_isAhead cI cZ cR a_t a_t_values a_t_weight a_t_choices a_t_chooser a_t_owner a_t_held a_t_pick a_t_gain t_count t_choices_r t_weight_r) H := hP
    have hD : va_D A (wd_X0_isAhead cI cZ cR a_t a_t_values a_t_weight a_t_choices a_t_chooser a_t_owner a_t_held a_t_pick a_t_gain t_count t_choices_r t_weight_r) := hD
    refine lv_if_ne (tgt := 20) hx hb dX0_isAhead_15 (by decide) (fun c6 => ?_) (fun c6 => ?_)
    · have hf := ineg c6 hf
      refine lv_aload_n hx hb dX0_isAhead_20 rfl (lv_at hl 0 rfl) ?_
      refine va_get (D := D) (ci := 0) (v := .ref a_t_weight) (C := RX0) (T := TX0) (N := 9) hx hb hts in_X0_isAhead_X0 hown hK hP 0 rfl rfl 1 (by decide) (hts (.fieldLink RX0 15 "DivisionHall$Dealer" "weight" "[I") (by decide +kernel)) (fun _ h9 => h9) rfl dX0_isAhead_21 ?_
      refine lv_iload_n hx hb dX0_isAhead_24 rfl (lv_at hl 1 rfl) ?_
      obtain ⟨hi7, hf⟩ := gin_s hf
      refine va_iald hx hb hK hP 2 0 rfl rfl hi7 dX0_isAhead_25 ?_
      refine lv_aload_n hx hb dX0_isAhead_26 rfl (lv_at hl 0 rfl) ?_
      refine va_get (D := D) (ci := 0) (v := .ref a_t_choices) (C := RX0) (T := TX0) (N := 9) hx hb hts in_X0_isAhead_X0 hown hK hP 0 rfl rfl 2 (by decide) (hts (.fieldLink RX0 18 "DivisionHall$Dealer" "choices" "[I") (by decide +kernel)) (fun _ h9 => h9) rfl dX0_isAhead_27 ?_
      refine lv_iload_n hx hb dX0_isAhead_30 rfl (lv_at hl 2 rfl) ?_
      obtain ⟨hi8, hf⟩ := gin_s hf
      refine va_iald hx hb hK hP 1 0 rfl rfl hi8 dX0_isAhead_31 ?_
      refine lv_iload_n hx hb dX0_isAhead_32 rfl (lv_at hl 3 rfl) ?_
      refine lv_iconst (v := (1 : Int32)) hx hb dX0_isAhead_33 (by decide) ?_
      refine lv_iadd hx hb dX0_isAhead_34 ?_
      refine lv_imul hx hb dX0_isAhead_35 ?_
      refine lv_iconst (v := (1 : Int32)) hx hb dX0_isAhead_36 (by decide) ?_
      refine lv_iadd hx hb dX0_isAhead_37 ?_
      refine lv_imul hx hb dX0_isAhead_38 ?_
      refine lv_istore (lv' := [(4, .int ((t_weight_r (x1).toNatClampNeg) * (((t_choices_r (x2).toNatClampNeg) * (x3 + (1 : Int32))) + (1 : Int32)))), (0, .ref a_t), (1, .int x1), (2, .int x2), (3, .int x3)]) hx hb dX0_isAhead_39 hl (by decide) rfl (fun ls hl => ?_)
      refine lv_aload_n hx hb dX0_isAhead_41 rfl (lv_at hl 1 rfl) ?_
      refine va_get (D := D) (ci := 0) (v := .ref a_t_weight) (C := RX0) (T := TX0) (N := 9) hx hb hts in_X0_isAhead_X0 hown hK hP 0 rfl rfl 1 (by decide) (hts (.fieldLink RX0 15 "DivisionHall$Dealer" "weight" "[I") (by decide +kernel)) (fun _ h9 => h9) rfl dX0_isAhead_42 ?_
      refine lv_iload_n hx hb dX0_isAhead_45 rfl (lv_at hl 3 rfl) ?_
      obtain ⟨hi9, hf⟩ := gin_s hf
      refine va_iald hx hb hK hP 2 0 rfl rfl hi9 dX0_isAhead_46 ?_
      refine lv_aload_n hx hb dX0_isAhead_47 rfl (lv_at hl 1 rfl) ?_
      refine va_get (D := D) (ci := 0) (v := .ref a_t_choices) (C := RX0) (T := TX0) (N := 9) hx hb hts in_X0_isAhead_X0 hown hK hP 0 rfl rfl 2 (by decide) (hts (.fieldLink RX0 18 "DivisionHall$Dealer" "choices" "[I") (by decide +kernel)) (fun _ h9 => h9) rfl dX0_isAhead_48 ?_
      refine lv_iload_n hx hb dX0_isAhead_51 rfl (lv_at hl 2 rfl) ?_
      obtain ⟨hi10, hf⟩ := gin_s hf
      refine va_iald hx hb hK hP 1 0 rfl rfl hi10 dX0_isAhead_52 ?_
      refine lv_iload_n hx hb dX0_isAhead_53 rfl (lv_at hl 4 rfl) ?_
      refine lv_iconst (v := (1 : Int32)) hx hb dX0_isAhead_54 (by decide) ?_
      refine lv_iadd hx hb dX0_isAhead_55 ?_
      refine lv_imul hx hb dX0_isAhead_56 ?_
      refine lv_iconst (v := (1 : Int32)) hx hb dX0_isAhead_57 (by decide) ?_
      refine lv_iadd hx hb dX0_isAhead_58 ?_
      refine lv_imul hx hb dX0_isAhead_59 ?_
      refine lv_istore (lv' := [(5, .int ((t_weight_r (x2).toNatClampNeg) * (((t_choices_r (x1).toNatClampNeg) * (x3 + (1 : Int32))) + (1 : Int32)))), (4, .int ((t_weight_r (x1).toNatClampNeg) * (((t_choices_r (x2).toNatClampNeg) * (x3 + (1 : Int32))) + (1 : Int32)))), (0, .ref a_t), (1, .int x1), (2, .int x2), (3, .int x3)]) hx hb dX0_isAhead_60 hl (by decide) rfl (fun ls hl => ?_)
      refine lv_iload hx hb dX0_isAhead_62 (lv_at hl 1 rfl) ?_
      refine lv_iload hx hb dX0_isAhead_64 (lv_at hl 0 rfl) ?_
      refine lv_icmp_gt (tgt := 91) hx hb dX0_isAhead_66 (by decide) (fun c11 => ?_) (fun c11 => ?_)
      · have hf := ipos c11 hf
        refine lv_iconst (v := (1 : Int32)) hx hb dX0_isAhead_91 (by decide) ?_
        refine lv_goto (tgt := 96) hx hb dX0_isAhead_92 (by decide) ?_
        cases hf
        exact retz (Or.inr rfl) X hK hP hD hS dX0_isAhead_96
      · have hf := ineg c11 hf
        refine lv_iload hx hb dX0_isAhead_69 (lv_at hl 1 rfl) ?_
        refine lv_iload hx hb dX0_isAhead_71 (lv_at hl 0 rfl) ?_
        refine lv_icmp_ne (tgt := 95) hx hb dX0_isAhead_73 (by decide) (fun c12 => ?_) (fun c12 => ?_)
        · have hf := ineg c12 hf
          refine lv_iconst (v := (0 : Int32)) hx hb dX0_isAhead_95 (by decide) ?_
          cases hf
          exact retz (Or.inl rfl) X hK hP hD hS dX0_isAhead_96
        · have hf := ipos c12 hf
          refine lv_aload_n hx hb dX0_isAhead_76 rfl (lv_at hl 2 rfl) ?_
          refine va_get (D := D) (ci := 0) (v := .ref a_t_weight) (C := RX0) (T := TX0) (N := 9) hx hb hts in_X0_isAhead_X0 hown hK hP 0 rfl rfl 1 (by decide) (hts (.fieldLink RX0 15 "DivisionHall$Dealer" "weight" "[I") (by decide +kernel)) (fun _ h9 => h9) rfl dX0_isAhead_77 ?_
          refine lv_iload_n hx hb dX0_isAhead_80 rfl (lv_at hl 3 rfl) ?_
          obtain ⟨hi13, hf⟩ := gin_s hf
          refine va_iald hx hb hK hP 2 0 rfl rfl hi13 dX0_isAhead_81 ?_
          refine lv_aload_n hx hb dX0_isAhead_82 rfl (lv_at hl 2 rfl) ?_
          refine va_get (D := D) (ci := 0) (v := .ref a_t_weight) (C := RX0) (T := TX0) (N := 9) hx hb hts in_X0_isAhead_X0 hown hK hP 0 rfl rfl 1 (by decide) (hts (.fieldLink RX0 15 "DivisionHall$Dealer" "weight" "[I") (by decide +kernel)) (fun _ h9 => h9) rfl dX0_isAhead_83 ?_
          refine lv_iload_n hx hb dX0_isAhead_86 rfl (lv_at hl 4 rfl) ?_
          obtain ⟨hi14, hf⟩ := gin_s hf
          refine va_iald hx hb hK hP 2 0 rfl rfl hi14 dX0_isAhead_87 ?_
          refine lv_icmp_le (tgt := 95) hx hb dX0_isAhead_88 (by decide) (fun c15 => ?_) (fun c15 => ?_)
          · have hf := ipos c15 hf
            refine lv_iconst (v := (0 : Int32)) hx hb dX0_isAhead_95 (by decide) ?_
            cases hf
            exact retz (Or.inl rfl) X hK hP hD hS dX0_isAhead_96
          · have hf := ineg c15 hf
            refine lv_iconst (v := (1 : Int32)) hx hb dX0_isAhead_91 (by decide) ?_
            refine lv_goto (tgt := 96) hx hb dX0_isAhead_92 (by decide) ?_
            cases hf
            exact retz (Or.inr rfl) X hK hP hD hS dX0_isAhead_96
    · have hf := ipos c6 hf
      refine lv_iconst (v := (0 : Int32)) hx hb dX0_isAhead_18 (by decide) ?_
      cases hf
      exact retz (Or.inl rfl) X hK hP hD hS dX0_isAhead_19

abbrev wd_X0_queueUp (cI cZ cR : ClassId) (a_t a_t_values a_t_weight a_t_choices a_t_chooser a_t_owner a_t_held a_t_pick a_t_gain : Nat) (t_count : Int32) (t_choices_r : Nat → Int32) (t_chooser_r : Nat → Int32) (t_weight_r : Nat → Int32) : va_W := [(a_t, oB 0 [.ref a_t_values, .ref a_t_weight, .ref a_t_choices, .ref a_t_chooser, .ref a_t_owner, .ref a_t_held, .ref a_t_pick, .ref a_t_gain, .int t_count]), (a_t_choices, aI cI 6 t_choices_r), (a_t_chooser, aI cI 8 t_chooser_r), (a_t_weight, aI cI 6 t_weight_r)]
set_option maxRecDepth 100000 in
theorem in_X0_queueUp_X0 : ∀ w ∈ wsX00, w ∈ wsX0_queueUp := by decide +kernel
set_option maxHeartbeats 4000000 in
set_option maxRecDepth 100000 in
theorem w_X0_queueUp_80 {p : Program} {l : Launch} {e : Env} {s : State} {m : MethodId} {args : Array Value} {below : List Frame} {meth : Method} {c : Code} {D : va_G} {cI cZ cR : ClassId} {A : Nat → Prop} {a_t a_t_values a_t_weight a_t_choices a_t_chooser a_t_owner a_t_held a_t_pick a_t_gain : Nat} {t_weight_r : Nat → Int32} {x1 : Int32} {x3 : Int32} {rec21 : Int32 → Int32 → (Nat → Int32) → (Nat → Int32) → Option (Int32 × (Nat → Int32) × (Nat → Int32))} {out : Int32 × (Nat → Int32) × (Nat → Int32)} (X : cx p s m args meth c cX0_queueUp 7 none RX0 wsX0_queueUp) (hK : va_K D vwCl (ty3 cI cZ cR) s) (hA : ∀ q, s.heap.size ≤ q → A q) (hrec21 : ∀ (x4 : Int32) (t_count : Int32) (t_choices_r : Nat → Int32) (t_chooser_r : Nat → Int32), rec21 x4 t_count t_choices_r t_chooser_r = some out → ∀ (H : Heap) (locs : List Loc), va_P D vwCl (wd_X0_queueUp cI cZ cR a_t a_t_values a_t_weight a_t_choices a_t_chooser a_t_owner a_t_held a_t_pick a_t_gain t_count t_choices_r t_chooser_r t_weight_r) H → va_D A (wd_X0_queueUp cI cZ cR a_t a_t_values a_t_weight a_t_choices a_t_chooser a_t_owner a_t_held a_t_pick a_t_gain t_count t_choices_r t_chooser_r t_weight_r) → va_S A s.heap H locs → ∀ (ls : Array Slot), lv_has ls 7 [(0, .ref a_t), (1, .int x1), (3, .int x3), (4, .int x4)] → W p l e (headSpec wsX0_queueUp ({ frames := 2, cells := 0, slots := 0, locals := 46 } : Room)).room s m args below meth c H locs 0 0 (MQ below (qv D cI cZ cR A (wd_X0_queueUp cI cZ cR a_t a_t_values a_t_weight a_t_choices a_t_chooser a_t_owner a_t_held a_t_pick a_t_gain (out.1) (out.2.1) (out.2.2) t_weight_r)) args s 0 0 A) (F0 m 21 ls [])) : ∀ (x4 : Int32) (x5 : Int32) (t_count : Int32) (t_choices_r : Nat → Int32) (t_chooser_r : Nat → Int32), F_X0_queueUp_80 x1 x3 t_weight_r rec21 x4 x5 t_count t_choices_r t_chooser_r = some out → ∀ (H : Heap) (locs : List Loc), va_P D vwCl (wd_X0_queueUp cI cZ cR a_t a_t_values a_t_weight a_t_choices a_t_chooser a_t_owner a_t_held a_t_pick a_t_gain t_count t_choices_r t_chooser_r t_weight_r) H → va_D A (wd_X0_queueUp cI cZ cR a_t a_t_values a_t_weight a_t_choices a_t_chooser a_t_owner a_t_held a_t_pick a_t_gain t_count t_choices_r t_chooser_r t_weight_r) → va_S A s.heap H locs → ∀ (ls : Array Slot), lv_has ls 7 [(0, .ref a_t), (1, .int x1), (3, .int x3), (4, .int x4), (5, .int x5)] → W p l e (headSpec wsX0_queueUp ({ frames := 2, cells := 0, slots := 0, locals := 46 } : Room)).room s m args below meth c H locs 0 0 (MQ below (qv D cI cZ cR A (wd_X0_queueUp cI cZ cR a_t a_t_values a_t_weight a_t_choices a_t_chooser a_t_owner a_t_held a_t_pick a_t_gain (out.1) (out.2.1) (out.2.2) t_weight_r)) args s 0 0 A) (F0 m 80 ls []) := by
  obtain ⟨hx, hb, hml, hr, hown, hts, hlocks, hN⟩ := id X
  intro x4 x5 t_count t_choices_r t_chooser_r hf H locs hP hD hS ls hl
  unfold F_X0_queueUp_80 at hf
  refine lv_aload_n hx hb dX0_queueUp_80 rfl (lv_at hl 0 rfl) ?_
  refine va_get (D := D) (ci := 0) (v := .ref a_t_chooser) (C := RX0) (T := TX0) (N := 9) hx hb hts in_X0_queueUp_X0 hown hK hP 0 rfl rfl 3 (by decide) (hts (.fieldLink RX0 21 "DivisionHall$Dealer" "chooser" "[I") (by decide +kernel)) (fun _ h9 => h9) rfl dX0_queueUp_81 ?_
  refine lv_iload hx hb dX0_queueUp_84 (lv_at hl 3 rfl) ?_
  refine lv_iload hx hb dX0_queueUp_86 (lv_at hl 4 rfl) ?_
  obtain ⟨hi12, hf⟩ := gin_s hf
  refine va_iast hx hb hK hP hD hS 2 0 rfl rfl hi12 dX0_queueUp_88 (fun H locs hP hD hS => ?_)
  have hP : va_P D vwCl (wd_X0_queueUp cI cZ cR a_t a_t_values a_t_weight a_t_choices a_t_chooser a_t_owner a_t_held a_t_pick a_t_gain t_count t_choices_r (upd t_chooser_r (x4).toNatClampNeg x5) t_weight_r) H := hP
  have hD : va_D A (wd_X0_queueUp cI cZ cR a_t a_t_values a_t_weight a_t_choices a_t_chooser a_t_owner a_t_held a_t_pick a_t_gain t_count t_choices_r (upd t_chooser_r (x4).toNatClampNeg x5) t_weight_r) := hD
  refine lv_iload hx hb dX0_queueUp_89 (lv_at hl 4 rfl) ?_
  refine lv_bipush (v := (6 : Int32)) hx hb dX0_queueUp_91 (by decide) ?_
  obtain ⟨r13, hr14, hf⟩ := bnd hf
  refine wcalli (D := D) (cI := cI) (cZ := cZ) (cR := cR) (wc := (wd_X11_inside cI cZ cR)) (w' := (wd_X11_inside cI cZ cR)) [] hP hD hS hA rfl rfl rfl (rnSN (As := [.int x5, .int (6 : Int32)]) X [] hK hP hD rfl rfl (c_X11_inside l D cI cZ cR hr14) ⟨va_cnB (host := "DivisionHall") 2 hts ggX0_queueUp_X11_inside rfl rfl rfl (hN.2.1 ("DivisionHall$Dealer", 36, yX11_inside, "DivisionHall") (by decide +kernel)) (hts (.initialized RX11) (by decide +kernel)) (by decide +kernel) ⟨Nat.le_of_ble_eq_true rfl, Nat.le_of_ble_eq_true rfl⟩, hts (.static yX11_inside) (by decide +kernel), trivial⟩ rfl hl.1 rfl (Nat.le_of_ble_eq_true rfl) dX0_queueUp_93) (fun H locs hP hD hS => ?_)
  have hP : va_P D vwCl (wd_X0_queueUp cI cZ cR a_t a_t_values a_t_weight a_t_choices a_t_chooser a_t_owner a_t_held a_t_pick a_t_gain t_count t_choices_r (upd t_chooser_r (x4).toNatClampNeg x5) t_weight_r) H := hP
  have hD : va_D A (wd_X0_queueUp cI cZ cR a_t a_t_values a_t_weight a_t_choices a_t_chooser a_t_owner a_t_held a_t_pick a_t_gain t_count t_choices_r (upd t_chooser_r (x4).toNatClampNeg x5) t_weight_r) := hD
  refine lv_if_eq (tgt := 110) hx hb dX0_queueUp_96 (by decide) (fun c15 => ?_) (fun c15 => ?_)
  · have hf := ipos c15 hf
    refine lv_iinc (v := (x4 + (1 : Int32))) (lv' := [(4, .int (x4 + (1 : Int32))), (0, .ref a_t), (1, .int x1), (3, .int x3), (5, .int x5)]) hx hb dX0_queueUp_110 hl (k := 3) rfl rfl (by decide) rfl (fun ls hl => ?_)
    refine lv_goto (tgt := 21) hx hb dX0_queueUp_113 (by decide) ?_
    exact hrec21 (x4 + (1 : Int32)) t_count t_choices_r (upd t_chooser_r (x4).toNatClampNeg x5) hf _ _ hP hD hS _ (lv_sub hl [1, 2, 3, 0] rfl)
  · have hf := ineg c15 hf
    refine lv_aload_n hx hb dX0_queueUp_99 rfl (lv_at hl 0 rfl) ?_
    refine va_get (D := D) (ci := 0) (v := .ref a_t_choices) (C := RX0) (T := TX0) (N := 9) hx hb hts in_X0_queueUp_X0 hown hK hP 0 rfl rfl 2 (by decide) (hts (.fieldLink RX0 18 "DivisionHall$Dealer" "choices" "[I") (by decide +kernel)) (fun _ h9 => h9) rfl dX0_queueUp_100 ?_
    refine lv_iload hx hb dX0_queueUp_103 (lv_at hl 4 rfl) ?_
    refine lv_dup2_11 hx hb dX0_queueUp_105 rfl rfl ?_
    obtain ⟨hi16, hf⟩ := gin_s hf
    refine va_iald hx hb hK hP 1 0 rfl rfl hi16 dX0_queueUp_106 ?_
    refine lv_iconst (v := (1 : Int32)) hx hb dX0_queueUp_107 (by decide) ?_
    refine lv_iadd hx hb dX0_queueUp_108 ?_
    obtain ⟨hi17, hf⟩ := gin_s hf
    refine va_iast hx hb hK hP hD hS 1 0 rfl rfl hi17 dX0_queueUp_109 (fun H locs hP hD hS => ?_)
    have hP : va_P D vwCl (wd_X0_queueUp cI cZ cR a_t a_t_values a_t_weight a_t_choices a_t_chooser a_t_owner a_t_held a_t_pick a_t_gain t_count (upd t_choices_r (x5).toNatClampNeg ((t_choices_r (x5).toNatClampNeg) + (1 : Int32))) (upd t_chooser_r (x4).toNatClampNeg x5) t_weight_r) H := hP
    have hD : va_D A (wd_X0_queueUp cI cZ cR a_t a_t_values a_t_weight a_t_choices a_t_chooser a_t_owner a_t_held a_t_pick a_t_gain t_count (upd t_choices_r (x5).toNatClampNeg ((t_choices_r (x5).toNatClampNeg) + (1 : Int32))) (upd t_chooser_r (x4).toNatClampNeg x5) t_weight_r) := hD
    refine lv_iinc (v := (x4 + (1 : Int32))) (lv' := [(4, .int (x4 + (1 : Int32))), (0, .ref a_t), (1, .int x1), (3, .int x3), (5, .int x5)]) hx hb dX0_queueUp_110 hl (k := 3) rfl rfl (by decide) rfl (fun ls hl => ?_)
    refine lv_goto (tgt := 21) hx hb dX0_queueUp_113 (by decide) ?_
    exact hrec21 (x4 + (1 : Int32)) t_count (upd t_choices_r (x5).toNatClampNeg ((t_choices_r (x5).toNatClampNeg) + (1 : Int32))) (upd t_chooser_r (x4).toNatClampNeg x5) hf _ _ hP hD hS _ (lv_sub hl [1, 2, 3, 0] rfl)
set_option maxHeartbeats 4000000 in
set_option maxRecDepth 100000 in
theorem w_X0_queueUp_36 {p : Program} {l : Launch} {e : Env} {s : State} {m : MethodId} {args : Array Value} {below : List Frame} {meth : Method} {c : Code} {D : va_G} {cI cZ cR : ClassId} {A : Nat → Prop} {a_t a_t_values a_t_weight a_t_choices a_t_chooser a_t_owner a_t_held a_t_pick a_t_gain : Nat} {t_weight_r : Nat → Int32} {x1 : Int32} {x3 : Int32} {rec21 : Int32 → Int32 → (Nat → Int32) → (Nat → Int32) → Option (Int32 × (Nat → Int32) × (Nat → Int32))} {out : Int32 × (Nat → Int32) × (Nat → Int32)} (X : cx p s m args meth c cX0_queueUp 7 none RX0 wsX0_queueUp) (hK : va_K D vwCl (ty3 cI cZ cR) s) (hA : ∀ q, s.heap.size ≤ q → A q) (hrec21 : ∀ (x4 : Int32) (t_count : Int32) (t_choices_r : Nat → Int32) (t_chooser_r : Nat → Int32), rec21 x4 t_count t_choices_r t_chooser_r = some out → ∀ (H : Heap) (locs : List Loc), va_P D vwCl (wd_X0_queueUp cI cZ cR a_t a_t_values a_t_weight a_t_choices a_t_chooser a_t_owner a_t_held a_t_pick a_t_gain t_count t_choices_r t_chooser_r t_weight_r) H → va_D A (wd_X0_queueUp cI cZ cR a_t a_t_values a_t_weight a_t_choices a_t_chooser a_t_owner a_t_held a_t_pick a_t_gain t_count t_choices_r t_chooser_r t_weight_r) → va_S A s.heap H locs → ∀ (ls : Array Slot), lv_has ls 7 [(0, .ref a_t), (1, .int x1), (3, .int x3), (4, .int x4)] → W p l e (headSpec wsX0_queueUp ({ frames := 2, cells := 0, slots := 0, locals := 46 } : Room)).room s m args below meth c H locs 0 0 (MQ below (qv D cI cZ cR A (wd_X0_queueUp cI cZ cR a_t a_t_values a_t_weight a_t_choices a_t_chooser a_t_owner a_t_held a_t_pick a_t_gain (out.1) (out.2.1) (out.2.2) t_weight_r)) args s 0 0 A) (F0 m 21 ls [])) : ∀ (n : Nat) (x4 : Int32) (x5 : Int32) (x6 : Int32) (t_count : Int32) (t_choices_r : Nat → Int32) (t_chooser_r : Nat → Int32), F_X0_queueUp_36 x1 x3 t_weight_r rec21 n x4 x5 x6 t_count t_choices_r t_chooser_r = some out → ∀ (H : Heap) (locs : List Loc), va_P D vwCl (wd_X0_queueUp cI cZ cR a_t a_t_values a_t_weight a_t_choices a_t_chooser a_t_owner a_t_held a_t_pick a_t_gain t_count t_choices_r t_chooser_r t_weight_r) H → va_D A (wd_X0_queueUp cI cZ cR a_t a_t_values a_t_weight a_t_choices a_t_chooser a_t_owner a_t_held a_t_pick a_t_gain t_count t_choices_r t_chooser_r t_weight_r) → va_S A s.heap H locs → ∀ (ls : Array Slot), lv_has ls 7 [(0, .ref a_t), (1, .int x1), (3, .int x3), (4, .int x4), (5, .int x5), (6, .int x6)] → W p l e (headSpec wsX0_queueUp ({ frames := 2, cells := 0, slots := 0, locals := 46 } : Room)).room s m args below meth c H locs 0 0 (MQ below (qv D cI cZ cR A (wd_X0_queueUp cI cZ cR a_t a_t_values a_t_weight a_t_choices a_t_chooser a_t_owner a_t_held a_t_pick a_t_gain (out.1) (out.2.1) (out.2.2) t_weight_r)) args s 0 0 A) (F0 m 36 ls []) := by
  obtain ⟨hx, hb, hml, hr, hown, hts, hlocks, hN⟩ := id X
  intro n
  induction n with
  | zero =>
    intro x4 x5 x6 t_count t_choices_r t_chooser_r hf
    cases (show (none : Option (Int32 × (Nat → Int32) × (Nat → Int32))) = some out from hf)
  | succ n ih =>
    intro x4 x5 x6 t_count t_choices_r t_chooser_r hf H locs hP hD hS ls hl
    rw [F_X0_queueUp_36] at hf
    refine lv_iload hx hb dX0_queueUp_36 (lv_at hl 5 rfl) ?_
    refine lv_bipush (v := (6 : Int32)) hx hb dX0_queueUp_38 (by decide) ?_
    refine lv_icmp_ge (tgt := 80) hx hb dX0_queueUp_40 (by decide) (fun c4 => ?_) (fun c4 => ?_)
    · have hf := ipos c4 hf
      exact w_X0_queueUp_80 X hK hA hrec21 x4 x5 t_count t_choices_r t_chooser_r hf _ _ hP hD hS _ (lv_sub hl [0, 1, 2, 3, 4] rfl)
    · have hf := ineg c4 hf
      refine lv_iload_n hx hb dX0_queueUp_43 rfl (lv_at hl 1 rfl) ?_
      refine lv_iload hx hb dX0_queueUp_44 (lv_at hl 5 rfl) ?_
      obtain ⟨r5, hr6, hf⟩ := bnd hf
      refine wcalli (D := D) (cI := cI) (cZ := cZ) (cR := cR) (wc := (wd_X11_has cI cZ cR)) (w' := (wd_X11_has cI cZ cR)) [] hP hD hS hA rfl rfl rfl (rnSN (As := [.int x1, .int x6]) X [] hK hP hD rfl rfl (c_X11_has l D cI cZ cR hr6) ⟨va_cnB (host := "DivisionHall") 2 hts ggX0_queueUp_X11_has rfl rfl rfl (hN.2.1 ("DivisionHall$Dealer", 40, yX11_has, "DivisionHall") (by decide +kernel)) (hts (.initialized RX11) (by decide +kernel)) (by decide +kernel) ⟨Nat.le_of_ble_eq_true rfl, Nat.le_of_ble_eq_true rfl⟩, hts (.static yX11_has) (by decide +kernel), trivial⟩ rfl hl.1 rfl (Nat.le_of_ble_eq_true rfl) dX0_queueUp_46) (fun H locs hP hD hS => ?_)
      have hP : va_P D vwCl (wd_X0_queueUp cI cZ cR a_t a_t_values a_t_weight a_t_choices a_t_chooser a_t_owner a_t_held a_t_pick a_t_gain t_count t_choices_r t_chooser_r t_weight_r) H := hP
      have hD : va_D A (wd_X0_queueUp cI cZ cR a_t a_t_values a_t_weight a_t_choices a_t_chooser a_t_owner a_t_held a_t_pick a_t_gain t_count t_choices_r t_chooser_r t_weight_r) := hD
      refine lv_if_eq (tgt := 74) hx hb dX0_queueUp_49 (by decide) (fun c7 => ?_) (fun c7 => ?_)
      · have hf := ipos c7 hf
        refine lv_iinc (v := (x6 + (1 : Int32))) (lv' := [(6, .int (x6 + (1 : Int32))), (0, .ref a_t), (1, .int x1), (3, .int x3), (4, .int x4), (5, .int x5)]) hx hb dX0_queueUp_74 hl (k := 5) rfl rfl (by decide) rfl (fun ls hl => ?_)
        refine lv_goto (tgt := 36) hx hb dX0_queueUp_77 (by decide) ?_
        exact ih x4 x5 (x6 + (1 : Int32)) t_count t_choices_r t_chooser_r hf _ _ hP hD hS _ (lv_sub hl [1, 2, 3, 4, 5, 0] rfl)
      · have hf := ineg c7 hf
        refine lv_iload hx hb dX0_queueUp_52 (lv_at hl 4 rfl) ?_
        refine lv_iconst (v := (-1 : Int32)) hx hb dX0_queueUp_54 (by decide) ?_
        refine lv_icmp_eq (tgt := 70) hx hb dX0_queueUp_55 (by decide) (fun c8 => ?_) (fun c8 => ?_)
        · have hf := ipos c8 hf
          refine lv_iload hx hb dX0_queueUp_70 (lv_at hl 5 rfl) ?_
          refine lv_istore (lv' := [(5, .int x6), (0, .ref a_t), (1, .int x1), (3, .int x3), (4, .int x4), (6, .int x6)]) hx hb dX0_queueUp_72 hl (by decide) rfl (fun ls hl => ?_)
          refine lv_iinc (v := (x6 + (1 : Int32))) (lv' := [(6, .int (x6 + (1 : Int32))), (5, .int x6), (0, .ref a_t), (1, .int x1), (3, .int x3), (4, .int x4)]) hx hb dX0_queueUp_74 hl (k := 5) rfl rfl (by decide) rfl (fun ls hl => ?_)
          refine lv_goto (tgt := 36) hx hb dX0_queueUp_77 (by decide) ?_
          exact ih x4 x6 (x6 + (1 : Int32)) t_count t_choices_r t_chooser_r hf _ _ hP hD hS _ (lv_sub hl [2, 3, 4, 5, 1, 0] rfl)
        · have hf := ineg c8 hf
          refine lv_aload_n hx hb dX0_queueUp_58 rfl (lv_at hl 0 rfl) ?_
          refine lv_iload hx hb dX0_queueUp_59 (lv_at hl 5 rfl) ?_
          refine lv_iload hx hb dX0_queueUp_61 (lv_at hl 4 rfl) ?_
          refine lv_iload_n hx hb dX0_queueUp_63 rfl (lv_at hl 2 rfl) ?_
          obtain ⟨r9, hr10, hf⟩ := bnd hf
          refine wcalli (D := D) (cI := cI) (cZ := cZ) (cR := cR) (wc := (wd_X0_isAhead cI cZ cR a_t a_t_values a_t_weight a_t_choices a_t_chooser a_t_owner a_t_held a_t_pick a_t_gain t_count t_choices_r t_weight_r)) (w' := (wd_X0_isAhead cI cZ cR a_t a_t_values a_t_weight a_t_choices a_t_chooser a_t_owner a_t_held a_t_pick a_t_gain t_count t_choices_r t_weight_r)) [0, 1, 3] hP hD hS hA rfl rfl rfl (rnV (As := [.int x6, .int x5, .int x3]) (ci := 0) (q0 := 0) X [0, 1, 3] hK hP hD rfl rfl rfl rfl (c_X0_isAhead l D cI cZ cR hr10) (cwV 3 hts gX0_queueUp_X0_isAhead rfl rfl rfl (by decide +kernel) ⟨Nat.le_of_ble_eq_true rfl, Nat.le_of_ble_eq_true rfl⟩) rfl hl.1 rfl (Nat.le_of_ble_eq_true rfl) dX0_queueUp_64) (fun H locs hP hD hS => ?_)
          have hP : va_P D vwCl (wd_X0_queueUp cI cZ cR a_t a_t_values a_t_weight a_t_choices a_t_chooser a_t_owner a_t_held a_t_pick a_t_gain t_count t_choices_r t_chooser_r t_weight_r) H := hP
          have hD : va_D A (wd_X0_queueUp cI cZ cR a_t a_t_values a_t_weight a_t_choices a_t_chooser a_t_owner a_t_held a_t_pick a_t_gain t_count t_choices_r t_chooser_r t_weight_r) := hD
          refine lv_if_eq (tgt := 74) hx hb dX0_queueUp_67 (by decide) (fun c11 => ?_) (fun c11 => ?_)
          · have hf := ipos c11 hf
            refine lv_iinc (v := (x6 + (1 : Int32))) (lv' := [(6, .int (x6 + (1 : Int32))), (0, .ref a_t), (1, .int x1), (3, .int x3), (4, .int x4), (5, .int x5)]) hx hb dX0_queueUp_74 hl (k := 5) rfl rfl (by decide) rfl (fun ls hl => ?_)
            refine lv_goto (tgt := 36) hx hb dX0_queueUp_77 (by decide) ?_
            exact ih x4 x5 (x6 + (1 : Int32)) t_count t_choices_r t_chooser_r hf _ _ hP hD hS _ (lv_sub hl [1, 2, 3, 4, 5, 0] rfl)
          · have hf := ineg c11 hf
            refine lv_iload hx hb dX0_queueUp_70 (lv_at hl 5 rfl) ?_
            refine lv_istore (lv' := [(5, .int x6), (0, .ref a_t), (1, .int x1), (3, .int x3), (4, .int x4), (6, .int x6)]) hx hb dX0_queueUp_72 hl (by decide) rfl (fun ls hl => ?_)
            refine lv_iinc (v := (x6 + (1 : Int32))) (lv' := [(6, .int (x6 + (1 : Int32))), (5, .int x6), (0, .ref a_t), (1, .int x1), (3, .int x3), (4, .int x4)]) hx hb dX0_queueUp_74 hl (k := 5) rfl rfl (by decide) rfl (fun ls hl => ?_)
            refine lv_goto (tgt := 36) hx hb dX0_queueUp_77 (by decide) ?_
            exact ih x4 x6 (x6 + (1 : Int32)) t_count t_choices_r t_chooser_r hf _ _ hP hD hS _ (lv_sub hl [2, 3, 4, 5, 1, 0] rfl)
set_option maxHeartbeats 4000000 in
set_option maxRecDepth 100000 in
theorem w_X0_queueUp_21 {p : Program} {l : Launch} {e : Env} {s : State} {m : MethodId} {args : Array Value} {below : List Frame} {meth : Method} {c : Code} {D : va_G} {cI cZ cR : ClassId} {A : Nat → Prop} {a_t a_t_values a_t_weight a_t_choices a_t_chooser a_t_owner a_t_held a_t_pick a_t_gain : Nat} {t_weight_r : Nat → Int32} {x1 : Int32} {x3 : Int32} {out : Int32 × (Nat → Int32) × (Nat → Int32)} (X : cx p s m args meth c cX0_queueUp 7 none RX0 wsX0_queueUp) (hK : va_K D vwCl (ty3 cI cZ cR) s) (hA : ∀ q, s.heap.size ≤ q → A q) : ∀ (n : Nat) (x4 : Int32) (t_count : Int32) (t_choices_r : Nat → Int32) (t_chooser_r : Nat → Int32), F_X0_queueUp_21 x1 x3 t_weight_r n x4 t_count t_choices_r t_chooser_r = some out → ∀ (H : Heap) (locs : List Loc), va_P D vwCl (wd_X0_queueUp cI cZ cR a_t a_t_values a_t_weight a_t_choices a_t_chooser a_t_owner a_t_held a_t_pick a_t_gain t_count t_choices_r t_chooser_r t_weight_r) H → va_D A (wd_X0_queueUp cI cZ cR a_t a_t_values a_t_weight a_t_choices a_t_chooser a_t_owner a_t_held a_t_pick a_t_gain t_count t_choices_r t_chooser_r t_weight_r) → va_S A s.heap H locs → ∀ (ls : Array Slot), lv_has ls 7 [(0, .ref a_t), (1, .int x1), (3, .int x3), (4, .int x4)] → W p l e (headSpec wsX0_queueUp ({ frames := 2, cells := 0, slots := 0, locals := 46 } : Room)).room s m args below meth c H locs 0 0 (MQ below (qv D cI cZ cR A (wd_X0_queueUp cI cZ cR a_t a_t_values a_t_weight a_t_choices a_t_chooser a_t_owner a_t_held a_t_pick a_t_gain (out.1) (out.2.1) (out.2.2) t_weight_r)) args s 0 0 A) (F0 m 21 ls []) := by
  obtain ⟨hx, hb, hml, hr, hown, hts, hlocks, hN⟩ := id X
  intro n
  induction n with
  | zero =>
    intro x4 t_count t_choices_r t_chooser_r hf
    cases (show (none : Option (Int32 × (Nat → Int32) × (Nat → Int32))) = some out from hf)
  | succ n ih =>
    intro x4 t_count t_choices_r t_chooser_r hf H locs hP hD hS ls hl
    rw [F_X0_queueUp_21] at hf
    refine lv_iload hx hb dX0_queueUp_21 (lv_at hl 3 rfl) ?_
    refine lv_aload_n hx hb dX0_queueUp_23 rfl (lv_at hl 0 rfl) ?_
    refine va_get (D := D) (ci := 0) (v := .int t_count) (C := RX0) (T := TX0) (N := 9) hx hb hts in_X0_queueUp_X0 hown hK hP 0 rfl rfl 8 (by decide) (hts (.fieldLink RX0 64 "DivisionHall$Dealer" "count" "I") (by decide +kernel)) (fun _ h9 => h9) rfl dX0_queueUp_24 ?_
    refine lv_icmp_ge (tgt := 116) hx hb dX0_queueUp_27 (by decide) (fun c3 => ?_) (fun c3 => ?_)
    · have hf := ipos c3 hf
      cases hf
      exact retv X hK hP hD hS dX0_queueUp_116
    · have hf := ineg c3 hf
      refine lv_iconst (v := (-1 : Int32)) hx hb dX0_queueUp_30 (by decide) ?_
      refine lv_istore (lv' := [(5, .int (-1 : Int32)), (0, .ref a_t), (1, .int x1), (3, .int x3), (4, .int x4)]) hx hb dX0_queueUp_31 hl (by decide) rfl (fun ls hl => ?_)
      refine lv_iconst (v := (0 : Int32)) hx hb dX0_queueUp_33 (by decide) ?_
      refine lv_istore (lv' := [(6, .int (0 : Int32)), (5, .int (-1 : Int32)), (0, .ref a_t), (1, .int x1), (3, .int x3), (4, .int x4)]) hx hb dX0_queueUp_34 hl (by decide) rfl (fun ls hl => ?_)
      exact w_X0_queueUp_36 X hK hA ih _ x4 (-1 : Int32) (0 : Int32) t_count t_choices_r t_chooser_r hf _ _ hP hD hS _ (lv_sub hl [2, 3, 4, 5, 1, 0] rfl)
set_option maxHeartbeats 4000000 in
set_option maxRecDepth 100000 in
theorem c_X0_queueUp (l : Launch) (D : va_G) (cI cZ cR : ClassId) {a_t a_t_values a_t_weight a_t_choices a_t_chooser a_t_owner a_t_held a_t_pick a_t_gain : Nat} {t_count : Int32} {t_choices_r : Nat → Int32} {t_chooser_r : Nat → Int32} {t_weight_r : Nat → Int32} {x1 : Int32} {x2 : Int32} {x3 : Int32} {sz : Nat} {out : Int32 × (Nat → Int32) × (Nat → Int32)} (hf : F_X0_queueUp x1 x2 x3 t_count t_choices_r t_chooser_r t_weight_r = some out) : CV l yX0_queueUp wsX0_queueUp ({ frames := 2, cells := 0, slots := 0, locals := 46 } : Room) D cI cZ cR [.ref a_t, .int x1, .int x2, .int x3] (wd_X0_queueUp cI cZ cR a_t a_t_values a_t_weight a_t_choices a_t_chooser a_t_owner a_t_held a_t_pick a_t_gain t_count t_choices_r t_chooser_r t_weight_r) sz (wd_X0_queueUp cI cZ cR a_t a_t_values a_t_weight a_t_choices a_t_chooser a_t_owner a_t_held a_t_pick a_t_gain (out.1) (out.2.1) (out.2.2) t_weight_r) := by
  refine met_of (Qf := fun A => qv D cI cZ cR A (wd_X0_queueUp cI cZ cR a_t a_t_values a_t_weight a_t_choices a_t_chooser a_t_owner a_t_held a_t_pick a_t_gain (out.1) (out.2.1) (out.2.2) t_weight_r)) RX0 (by decide +kernel) rfl rfl (Nat.le_of_ble_eq_true rfl) ?_
  intro p e s m below meth c A X hK hA hP hD hS ls hl
  have hl : lv_has ls 7 [(0, .ref a_t), (1, .int x1), (2, .int x2), (3, .int x3)] := hl
  obtain ⟨hx, hb, hml, hr, hown, hts, hlocks, hN⟩ := id X
  unfold F_X0_queueUp at hf
  refine lv_aload_n hx hb dX0_queueUp_0 rfl (lv_at hl 0 rfl) ?_
  refine va_get (D := D) (ci := 0) (v := .ref a_t_choices) (C := RX0) (T := TX0) (N := 9) hx hb hts in_X0_queueUp_X0 hown hK hP 0 rfl rfl 2 (by decide) (hts (.fieldLink RX0 18 "DivisionHall$Dealer" "choices" "[I") (by decide +kernel)) (fun _ h9 => h9) rfl dX0_queueUp_1 ?_
  refine lv_iconst (v := (0 : Int32)) hx hb dX0_queueUp_4 (by decide) ?_
  obtain ⟨r1, hr2, hf⟩ := bnd hf
  refine wcallv (D := D) (cI := cI) (cZ := cZ) (cR := cR) (wc := (wd_J7_fill_53178 cI cZ cR a_t_choices 6 t_choices_r)) (w' := (wd_J7_fill_53178 cI cZ cR a_t_choices 6 r1)) [1] hP hD hS hA rfl rfl rfl (rnS (As := [.ref a_t_choices, .int (0 : Int32)]) X [1] hK hP hD rfl rfl (c_J7_fill_53178 l D cI cZ cR hr2) ⟨callB_of 2 hts ggX0_queueUp_J7_fill_53178 rfl rfl rfl (hts (.initialized RJ7) (by decide +kernel)) (hts (.methodLink RX0 52 yJ7_fill_53178) (by decide +kernel)) (by decide +kernel) ⟨Nat.le_of_ble_eq_true rfl, Nat.le_of_ble_eq_true rfl⟩, hts (.static yJ7_fill_53178) (by decide +kernel)⟩ rfl hl.1 rfl (Nat.le_of_ble_eq_true rfl) dX0_queueUp_5) (fun H locs hP hD hS => ?_)
  have hP : va_P D vwCl (wd_X0_queueUp cI cZ cR a_t a_t_values a_t_weight a_t_choices a_t_chooser a_t_owner a_t_held a_t_pick a_t_gain t_count r1 t_chooser_r t_weight_r) H := hP
  have hD : va_D A (wd_X0_queueUp cI cZ cR a_t a_t_values a_t_weight a_t_choices a_t_chooser a_t_owner a_t_held a_t_pick a_t_gain t_count r1 t_chooser_r t_weight_r) := hD
  refine lv_aload_n hx hb dX0_queueUp_8 rfl (lv_at hl 0 rfl) ?_
  refine lv_iload_n hx hb dX0_queueUp_9 rfl (lv_at hl 2 rfl) ?_
  refine lv_bipush (v := (8 : Int32)) hx hb dX0_queueUp_10 (by decide) ?_
  refine va_mmin hx hb (hml.trans hl.1.symm) hown (hts (.methodLink RX0 58 Lib.Math.min.name) (by decide +kernel)) (hts (.static Lib.Math.min.name) (by decide +kernel)) (hts (.initialized "java/lang/Math") (by decide +kernel)) (hts (.code Lib.Math.min.name Lib.Math.min.code 2 (some .int)) (by decide +kernel)) (Nat.le_of_ble_eq_true rfl) (Nat.le_of_ble_eq_true rfl) (Nat.zero_le _) (Nat.zero_le _) dX0_queueUp_12 ?_
  refine va_put (D := D) (ci := 0) (v := .int (if (8 : Int32) < x2 then (8 : Int32) else x2)) (ty := .int) (C := RX0) (T := TX0) (N := 9) hx hb hts in_X0_queueUp_X0 tyX0 tyX0_ok nmX0 hown hK hP hD hS 0 rfl rfl 8 (by decide) (hts (.fieldLink RX0 64 "DivisionHall$Dealer" "count" "I") (by decide +kernel)) (fun _ h9 => h9) rfl (by decide +kernel) rfl rfl (Nat.le_of_ble_eq_true rfl) dX0_queueUp_15 (fun H locs hP hD hS => ?_)
  have hP : va_P D vwCl (wd_X0_queueUp cI cZ cR a_t a_t_values a_t_weight a_t_choices a_t_chooser a_t_owner a_t_held a_t_pick a_t_gain (if (8 : Int32) < x2 then (8 : Int32) else x2) r1 t_chooser_r t_weight_r) H := hP
  have hD : va_D A (wd_X0_queueUp cI cZ cR a_t a_t_values a_t_weight a_t_choices a_t_chooser a_t_owner a_t_held a_t_pick a_t_gain (if (8 : Int32) < x2 then (8 : Int32) else x2) r1 t_chooser_r t_weight_r) := hD
  refine lv_iconst (v := (0 : Int32)) hx hb dX0_queueUp_18 (by decide) ?_
  refine lv_istore (lv' := [(4, .int (0 : Int32)), (0, .ref a_t), (1, .int x1), (2, .int x2), (3, .int x3)]) hx hb dX0_queueUp_19 hl (by decide) rfl (fun ls hl => ?_)
  exact w_X0_queueUp_21 X hK hA _ (0 : Int32) (if (8 : Int32) < x2 then (8 : Int32) else x2) r1 t_chooser_r hf _ _ hP hD hS _ (lv_sub hl [1, 2, 4, 0] rfl)
