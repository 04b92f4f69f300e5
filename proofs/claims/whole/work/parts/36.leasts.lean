abbrev wd_X1_at (cI cZ cR : ClassId) (a_t a_t_found a_t_covering : Nat) (t_count : Int32) (t_found_r : Nat → Int32) : va_W := [(a_t, oB 1 [.ref a_t_found, .ref a_t_covering, .int t_count]), (a_t_found, aI cI 252 t_found_r)]
set_option maxRecDepth 100000 in
theorem in_X1_at_X1 : ∀ w ∈ wsX10, w ∈ wsX1_at := by decide +kernel
set_option maxHeartbeats 4000000 in
set_option maxRecDepth 100000 in
theorem c_X1_at (l : Launch) (D : va_G) (cI cZ cR : ClassId) {a_t a_t_found a_t_covering : Nat} {t_count : Int32} {t_found_r : Nat → Int32} {x1 : Int32} {sz : Nat} {out : Int32} (hf : F_X1_at x1 t_count t_found_r = some out) : CI l yX1_at wsX1_at ({ frames := 1, cells := 0, slots := 0, locals := 21 } : Room) D cI cZ cR [.ref a_t, .int x1] (wd_X1_at cI cZ cR a_t a_t_found a_t_covering t_count t_found_r) sz (out) (wd_X1_at cI cZ cR a_t a_t_found a_t_covering t_count t_found_r) := by
  refine met_of (Qf := fun A => qi D cI cZ cR A (out) (wd_X1_at cI cZ cR a_t a_t_found a_t_covering t_count t_found_r)) RX1 (by decide +kernel) rfl rfl (Nat.le_of_ble_eq_true rfl) ?_
  intro p e s m below meth c A X hK hA hP hD hS ls hl
  have hl : lv_has ls 2 [(0, .ref a_t), (1, .int x1)] := hl
  obtain ⟨hx, hb, hml, hr, hown, hts, hlocks, hN⟩ := id X
  unfold F_X1_at at hf
  refine lv_iload_n hx hb dX1_at_0 rfl (lv_at hl 1 rfl) ?_
  refine lv_aload_n hx hb dX1_at_1 rfl (lv_at hl 0 rfl) ?_
  refine va_get (D := D) (ci := 1) (v := .int t_count) (C := RX1) (T := TX1) (N := 3) hx hb hts in_X1_at_X1 hown hK hP 0 rfl rfl 2 (by decide) (hts (.fieldLink RX1 22 "DivisionHall$Leasts" "count" "I") (by decide +kernel)) (fun _ h9 => h9) rfl dX1_at_2 ?_
  obtain ⟨r1, hr2, hf⟩ := bnd hf
  refine wcalli (D := D) (cI := cI) (cZ := cZ) (cR := cR) (wc := (wd_X11_inside cI cZ cR)) (w' := (wd_X11_inside cI cZ cR)) [] hP hD hS hA rfl rfl rfl (rnSN (As := [.int x1, .int t_count]) X [] hK hP hD rfl rfl (c_X11_inside l D cI cZ cR hr2) ⟨va_cnB (host := "DivisionHall") 2 hts ggX1_at_X11_inside rfl rfl rfl (hN.2.1 ("DivisionHall$Leasts", 26, yX11_inside, "DivisionHall") (by decide +kernel)) (hts (.initialized RX11) (by decide +kernel)) (by decide +kernel) ⟨Nat.le_of_ble_eq_true rfl, Nat.le_of_ble_eq_true rfl⟩, hts (.static yX11_inside) (by decide +kernel), trivial⟩ rfl hl.1 rfl (Nat.le_of_ble_eq_true rfl) dX1_at_5) (fun H locs hP hD hS => ?_)
  have hP : va_P D vwCl (wd_X1_at cI cZ cR a_t a_t_found a_t_covering t_count t_found_r) H := hP
  have hD : va_D A (wd_X1_at cI cZ cR a_t a_t_found a_t_covering t_count t_found_r) := hD
  refine lv_if_eq (tgt := 27) hx hb dX1_at_8 (by decide) (fun c3 => ?_) (fun c3 => ?_)
  · have hf := ipos c3 hf
    refine lv_iconst (v := (-1 : Int32)) hx hb dX1_at_27 (by decide) ?_
    cases hf
    exact reti X hK hP hD hS dX1_at_28
  · have hf := ineg c3 hf
    refine lv_iload_n hx hb dX1_at_11 rfl (lv_at hl 1 rfl) ?_
    refine lv_sipush (v := (252 : Int32)) hx hb dX1_at_12 (by decide) ?_
    refine lv_icmp_ge (tgt := 27) hx hb dX1_at_15 (by decide) (fun c4 => ?_) (fun c4 => ?_)
    · have hf := ipos c4 hf
      refine lv_iconst (v := (-1 : Int32)) hx hb dX1_at_27 (by decide) ?_
      cases hf
      exact reti X hK hP hD hS dX1_at_28
    · have hf := ineg c4 hf
      refine lv_aload_n hx hb dX1_at_18 rfl (lv_at hl 0 rfl) ?_
      refine va_get (D := D) (ci := 1) (v := .ref a_t_found) (C := RX1) (T := TX1) (N := 3) hx hb hts in_X1_at_X1 hown hK hP 0 rfl rfl 0 (by decide) (hts (.fieldLink RX1 11 "DivisionHall$Leasts" "found" "[I") (by decide +kernel)) (fun _ h9 => h9) rfl dX1_at_19 ?_
      refine lv_iload_n hx hb dX1_at_22 rfl (lv_at hl 1 rfl) ?_
      obtain ⟨hi5, hf⟩ := gin_s hf
      refine va_iald hx hb hK hP 1 0 rfl rfl hi5 dX1_at_23 ?_
      refine lv_goto (tgt := 28) hx hb dX1_at_24 (by decide) ?_
      cases hf
      exact reti X hK hP hD hS dX1_at_28

abbrev wd_X1_coversOne (cI cZ cR : ClassId) (a_t a_t_found a_t_covering a_t_covering_bits a_t_covering_trade : Nat) (t_count t_covering_in t_covering_fresh t_covering_tradeSought : Int32) (t_covering_bits_r : Nat → Int32) : va_W := [(a_t, oB 1 [.ref a_t_found, .ref a_t_covering, .int t_count]), (a_t_covering, oB 8 [.ref a_t_covering_bits, .ref a_t_covering_trade, .int t_covering_in, .int t_covering_fresh, .int t_covering_tradeSought]), (a_t_covering_bits, aI cI 32 t_covering_bits_r)]
set_option maxRecDepth 100000 in
theorem in_X1_coversOne_X1 : ∀ w ∈ wsX10, w ∈ wsX1_coversOne := by decide +kernel
set_option maxHeartbeats 4000000 in
set_option maxRecDepth 100000 in
theorem w_X1_coversOne_2 {p : Program} {l : Launch} {e : Env} {s : State} {m : MethodId} {args : Array Value} {below : List Frame} {meth : Method} {c : Code} {D : va_G} {cI cZ cR : ClassId} {A : Nat → Prop} {a_t a_t_found a_t_covering a_t_covering_bits a_t_covering_trade : Nat} {t_count : Int32} {t_covering_in : Int32} {t_covering_fresh : Int32} {t_covering_tradeSought : Int32} {t_covering_bits_r : Nat → Int32} {x1 : Int32} {out : Int32} (X : cx p s m args meth c cX1_coversOne 3 (some .boolean) RX1 wsX1_coversOne) (hK : va_K D vwCl (ty3 cI cZ cR) s) (hA : ∀ q, s.heap.size ≤ q → A q) : ∀ (n : Nat) (x2 : Int32), F_X1_coversOne_2 x1 t_covering_bits_r n x2 = some out → ∀ (H : Heap) (locs : List Loc), va_P D vwCl (wd_X1_coversOne cI cZ cR a_t a_t_found a_t_covering a_t_covering_bits a_t_covering_trade t_count t_covering_in t_covering_fresh t_covering_tradeSought t_covering_bits_r) H → va_D A (wd_X1_coversOne cI cZ cR a_t a_t_found a_t_covering a_t_covering_bits a_t_covering_trade t_count t_covering_in t_covering_fresh t_covering_tradeSought t_covering_bits_r) → va_S A s.heap H locs → ∀ (ls : Array Slot), lv_has ls 3 [(0, .ref a_t), (1, .int x1), (2, .int x2)] → W p l e (headSpec wsX1_coversOne ({ frames := 2, cells := 0, slots := 0, locals := 42 } : Room)).room s m args below meth c H locs 0 0 (MQ below (qi D cI cZ cR A (out) (wd_X1_coversOne cI cZ cR a_t a_t_found a_t_covering a_t_covering_bits a_t_covering_trade t_count t_covering_in t_covering_fresh t_covering_tradeSought t_covering_bits_r)) args s 0 0 A) (F0 m 2 ls []) := by
  obtain ⟨hx, hb, hml, hr, hown, hts, hlocks, hN⟩ := id X
  intro n
  induction n with
  | zero =>
    intro x2 hf
    cases (show (none : Option (Int32)) = some out from hf)
  | succ n ih =>
    intro x2 hf H locs hP hD hS ls hl
    rw [F_X1_coversOne_2] at hf
    refine lv_iload_n hx hb dX1_coversOne_2 rfl (lv_at hl 2 rfl) ?_
    refine lv_bipush (v := (10 : Int32)) hx hb dX1_coversOne_3 (by decide) ?_
    refine lv_icmp_ge (tgt := 39) hx hb dX1_coversOne_5 (by decide) (fun c1 => ?_) (fun c1 => ?_)
    · have hf := ipos c1 hf
      refine lv_iconst (v := (0 : Int32)) hx hb dX1_coversOne_39 (by decide) ?_
      cases hf
      exact retz (Or.inl rfl) X hK hP hD hS dX1_coversOne_40
    · have hf := ineg c1 hf
      refine lv_iload_n hx hb dX1_coversOne_8 rfl (lv_at hl 1 rfl) ?_
      refine lv_iload_n hx hb dX1_coversOne_9 rfl (lv_at hl 2 rfl) ?_
      obtain ⟨r2, hr3, hf⟩ := bnd hf
      refine wcalli (D := D) (cI := cI) (cZ := cZ) (cR := cR) (wc := (wd_X11_has cI cZ cR)) (w' := (wd_X11_has cI cZ cR)) [] hP hD hS hA rfl rfl rfl (rnSN (As := [.int x1, .int x2]) X [] hK hP hD rfl rfl (c_X11_has l D cI cZ cR hr3) ⟨va_cnB (host := "DivisionHall") 2 hts ggX1_coversOne_X11_has rfl rfl rfl (hN.2.1 ("DivisionHall$Leasts", 54, yX11_has, "DivisionHall") (by decide +kernel)) (hts (.initialized RX11) (by decide +kernel)) (by decide +kernel) ⟨Nat.le_of_ble_eq_true rfl, Nat.le_of_ble_eq_true rfl⟩, hts (.static yX11_has) (by decide +kernel), trivial⟩ rfl hl.1 rfl (Nat.le_of_ble_eq_true rfl) dX1_coversOne_10) (fun H locs hP hD hS => ?_)
      have hP : va_P D vwCl (wd_X1_coversOne cI cZ cR a_t a_t_found a_t_covering a_t_covering_bits a_t_covering_trade t_count t_covering_in t_covering_fresh t_covering_tradeSought t_covering_bits_r) H := hP
      have hD : va_D A (wd_X1_coversOne cI cZ cR a_t a_t_found a_t_covering a_t_covering_bits a_t_covering_trade t_count t_covering_in t_covering_fresh t_covering_tradeSought t_covering_bits_r) := hD
      refine lv_if_eq (tgt := 33) hx hb dX1_coversOne_13 (by decide) (fun c4 => ?_) (fun c4 => ?_)
      · have hf := ipos c4 hf
        refine lv_iinc (v := (x2 + (1 : Int32))) (lv' := [(2, .int (x2 + (1 : Int32))), (0, .ref a_t), (1, .int x1)]) hx hb dX1_coversOne_33 hl (k := 2) rfl rfl (by decide) rfl (fun ls hl => ?_)
        refine lv_goto (tgt := 2) hx hb dX1_coversOne_36 (by decide) ?_
        exact ih (x2 + (1 : Int32)) hf _ _ hP hD hS _ (lv_sub hl [1, 2, 0] rfl)
      · have hf := ineg c4 hf
        refine lv_aload_n hx hb dX1_coversOne_16 rfl (lv_at hl 0 rfl) ?_
        refine va_get (D := D) (ci := 1) (v := .ref a_t_covering) (C := RX1) (T := TX1) (N := 3) hx hb hts in_X1_coversOne_X1 hown hK hP 0 rfl rfl 1 (by decide) (hts (.fieldLink RX1 18 "DivisionHall$Leasts" "covering" "LDivisionHall$Table;") (by decide +kernel)) (fun _ h9 => h9) rfl dX1_coversOne_17 ?_
        refine lv_iload_n hx hb dX1_coversOne_20 rfl (lv_at hl 1 rfl) ?_
        refine lv_iconst (v := (1 : Int32)) hx hb dX1_coversOne_21 (by decide) ?_
        refine lv_iload_n hx hb dX1_coversOne_22 rfl (lv_at hl 2 rfl) ?_
        refine lv_ishl hx hb dX1_coversOne_23 ?_
        refine lv_ixor hx hb dX1_coversOne_24 ?_
        obtain ⟨r5, hr6, hf⟩ := bnd hf
        refine wcalli (D := D) (cI := cI) (cZ := cZ) (cR := cR) (wc := (wd_X9_at cI cZ cR a_t_covering a_t_covering_bits a_t_covering_trade t_covering_in t_covering_fresh t_covering_tradeSought t_covering_bits_r)) (w' := (wd_X9_at cI cZ cR a_t_covering a_t_covering_bits a_t_covering_trade t_covering_in t_covering_fresh t_covering_tradeSought t_covering_bits_r)) [1, 2] hP hD hS hA rfl rfl rfl (rnV (As := [.int (x1 ^^^ ((1 : Int32) <<< (x2 &&& 31)))]) (ci := 8) (q0 := 1) X [1, 2] hK hP hD rfl rfl rfl rfl (c_X9_at l D cI cZ cR hr6) (cwV 1 hts gX1_coversOne_X9_at rfl rfl rfl (by decide +kernel) ⟨Nat.le_of_ble_eq_true rfl, Nat.le_of_ble_eq_true rfl⟩) rfl hl.1 rfl (Nat.le_of_ble_eq_true rfl) dX1_coversOne_25) (fun H locs hP hD hS => ?_)
        have hP : va_P D vwCl (wd_X1_coversOne cI cZ cR a_t a_t_found a_t_covering a_t_covering_bits a_t_covering_trade t_count t_covering_in t_covering_fresh t_covering_tradeSought t_covering_bits_r) H := hP
        have hD : va_D A (wd_X1_coversOne cI cZ cR a_t a_t_found a_t_covering a_t_covering_bits a_t_covering_trade t_count t_covering_in t_covering_fresh t_covering_tradeSought t_covering_bits_r) := hD
        refine lv_if_eq (tgt := 33) hx hb dX1_coversOne_28 (by decide) (fun c7 => ?_) (fun c7 => ?_)
        · have hf := ipos c7 hf
          refine lv_iinc (v := (x2 + (1 : Int32))) (lv' := [(2, .int (x2 + (1 : Int32))), (0, .ref a_t), (1, .int x1)]) hx hb dX1_coversOne_33 hl (k := 2) rfl rfl (by decide) rfl (fun ls hl => ?_)
          refine lv_goto (tgt := 2) hx hb dX1_coversOne_36 (by decide) ?_
          exact ih (x2 + (1 : Int32)) hf _ _ hP hD hS _ (lv_sub hl [1, 2, 0] rfl)
        · have hf := ineg c7 hf
          refine lv_iconst (v := (1 : Int32)) hx hb dX1_coversOne_31 (by decide) ?_
          cases hf
          exact retz (Or.inr rfl) X hK hP hD hS dX1_coversOne_32
set_option maxHeartbeats 4000000 in
set_option maxRecDepth 100000 in
theorem c_X1_coversOne (l : Launch) (D : va_G) (cI cZ cR : ClassId) {a_t a_t_found a_t_covering a_t_covering_bits a_t_covering_trade : Nat} {t_count : Int32} {t_covering_in : Int32} {t_covering_fresh : Int32} {t_covering_tradeSought : Int32} {t_covering_bits_r : Nat → Int32} {x1 : Int32} {sz : Nat} {out : Int32} (hf : F_X1_coversOne x1 t_covering_bits_r = some out) : CI l yX1_coversOne wsX1_coversOne ({ frames := 2, cells := 0, slots := 0, locals := 42 } : Room) D cI cZ cR [.ref a_t, .int x1] (wd_X1_coversOne cI cZ cR a_t a_t_found a_t_covering a_t_covering_bits a_t_covering_trade t_count t_covering_in t_covering_fresh t_covering_tradeSought t_covering_bits_r) sz (out) (wd_X1_coversOne cI cZ cR a_t a_t_found a_t_covering a_t_covering_bits a_t_covering_trade t_count t_covering_in t_covering_fresh t_covering_tradeSought t_covering_bits_r) := by
  refine met_of (Qf := fun A => qi D cI cZ cR A (out) (wd_X1_coversOne cI cZ cR a_t a_t_found a_t_covering a_t_covering_bits a_t_covering_trade t_count t_covering_in t_covering_fresh t_covering_tradeSought t_covering_bits_r)) RX1 (by decide +kernel) rfl rfl (Nat.le_of_ble_eq_true rfl) ?_
  intro p e s m below meth c A X hK hA hP hD hS ls hl
  have hl : lv_has ls 3 [(0, .ref a_t), (1, .int x1)] := hl
  obtain ⟨hx, hb, hml, hr, hown, hts, hlocks, hN⟩ := id X
  unfold F_X1_coversOne at hf
  refine lv_iconst (v := (0 : Int32)) hx hb dX1_coversOne_0 (by decide) ?_
  refine lv_istore_n (lv' := [(2, .int (0 : Int32)), (0, .ref a_t), (1, .int x1)]) hx hb dX1_coversOne_1 rfl hl (by decide) rfl (fun ls hl => ?_)
  exact w_X1_coversOne_2 X hK hA _ (0 : Int32) hf _ _ hP hD hS _ (lv_sub hl [1, 2, 0] rfl)

abbrev wd_X1_weigh (cI cZ cR : ClassId) (a_t a_t_found a_t_covering a_t_covering_bits a_t_covering_trade : Nat) (t_count t_covering_in t_covering_fresh t_covering_tradeSought : Int32) (t_found_r : Nat → Int32) (t_covering_bits_r : Nat → Int32) : va_W := [(a_t, oB 1 [.ref a_t_found, .ref a_t_covering, .int t_count]), (a_t_covering, oB 8 [.ref a_t_covering_bits, .ref a_t_covering_trade, .int t_covering_in, .int t_covering_fresh, .int t_covering_tradeSought]), (a_t_found, aI cI 252 t_found_r), (a_t_covering_bits, aI cI 32 t_covering_bits_r)]
set_option maxRecDepth 100000 in
theorem in_X1_weigh_X1 : ∀ w ∈ wsX10, w ∈ wsX1_weigh := by decide +kernel
set_option maxHeartbeats 4000000 in
set_option maxRecDepth 100000 in
theorem w_X1_weigh_47 {p : Program} {l : Launch} {e : Env} {s : State} {m : MethodId} {args : Array Value} {below : List Frame} {meth : Method} {c : Code} {D : va_G} {cI cZ cR : ClassId} {A : Nat → Prop} {a_t a_t_found a_t_covering a_t_covering_bits a_t_covering_trade : Nat} {t_covering_in : Int32} {t_covering_fresh : Int32} {t_covering_tradeSought : Int32} {x1 : Int32} {x2 : Int32} {out : Int32 × (Nat → Int32) × (Nat → Int32)} (X : cx p s m args meth c cX1_weigh 4 none RX1 wsX1_weigh) (hK : va_K D vwCl (ty3 cI cZ cR) s) (hA : ∀ q, s.heap.size ≤ q → A q) : ∀ (x3 : Int32) (t_count : Int32) (t_covering_bits_r : Nat → Int32) (t_found_r : Nat → Int32), F_X1_weigh_47 x1 x2 x3 t_count t_covering_bits_r t_found_r = some out → ∀ (H : Heap) (locs : List Loc), va_P D vwCl (wd_X1_weigh cI cZ cR a_t a_t_found a_t_covering a_t_covering_bits a_t_covering_trade t_count t_covering_in t_covering_fresh t_covering_tradeSought t_found_r t_covering_bits_r) H → va_D A (wd_X1_weigh cI cZ cR a_t a_t_found a_t_covering a_t_covering_bits a_t_covering_trade t_count t_covering_in t_covering_fresh t_covering_tradeSought t_found_r t_covering_bits_r) → va_S A s.heap H locs → ∀ (ls : Array Slot), lv_has ls 4 [(0, .ref a_t), (1, .int x1), (2, .int x2), (3, .int x3)] → W p l e (headSpec wsX1_weigh ({ frames := 3, cells := 0, slots := 0, locals := 64 } : Room)).room s m args below meth c H locs 0 0 (MQ below (qv D cI cZ cR A (wd_X1_weigh cI cZ cR a_t a_t_found a_t_covering a_t_covering_bits a_t_covering_trade (out.1) t_covering_in t_covering_fresh t_covering_tradeSought (out.2.2) (out.2.1))) args s 0 0 A) (F0 m 47 ls []) := by
  obtain ⟨hx, hb, hml, hr, hown, hts, hlocks, hN⟩ := id X
  intro x3 t_count t_covering_bits_r t_found_r hf H locs hP hD hS ls hl
  unfold F_X1_weigh_47 at hf
  refine lv_iload_n hx hb dX1_weigh_47 rfl (lv_at hl 2 rfl) ?_
  refine lv_if_ne (tgt := 55) hx hb dX1_weigh_48 (by decide) (fun c9 => ?_) (fun c9 => ?_)
  · have hf := ineg c9 hf
    refine lv_aload_n hx hb dX1_weigh_55 rfl (lv_at hl 0 rfl) ?_
    refine va_get (D := D) (ci := 1) (v := .ref a_t_covering) (C := RX1) (T := TX1) (N := 3) hx hb hts in_X1_weigh_X1 hown hK hP 0 rfl rfl 1 (by decide) (hts (.fieldLink RX1 18 "DivisionHall$Leasts" "covering" "LDivisionHall$Table;") (by decide +kernel)) (fun _ h9 => h9) rfl dX1_weigh_56 ?_
    refine lv_iload_n hx hb dX1_weigh_59 rfl (lv_at hl 1 rfl) ?_
    obtain ⟨r10, hr11, hf⟩ := bnd hf
    refine wcallv (D := D) (cI := cI) (cZ := cZ) (cR := cR) (wc := (wd_X9_mark cI cZ cR a_t_covering a_t_covering_bits a_t_covering_trade t_covering_in t_covering_fresh t_covering_tradeSought t_covering_bits_r)) (w' := (wd_X9_mark cI cZ cR a_t_covering a_t_covering_bits a_t_covering_trade t_covering_in t_covering_fresh t_covering_tradeSought r10)) [1, 3] hP hD hS hA rfl rfl rfl (rnV (As := [.int x1]) (ci := 8) (q0 := 1) X [1, 3] hK hP hD rfl rfl rfl rfl (c_X9_mark l D cI cZ cR hr11) (cwV 1 hts gX1_weigh_X9_mark rfl rfl rfl (by decide +kernel) ⟨Nat.le_of_ble_eq_true rfl, Nat.le_of_ble_eq_true rfl⟩) rfl hl.1 rfl (Nat.le_of_ble_eq_true rfl) dX1_weigh_60) (fun H locs hP hD hS => ?_)
    have hP : va_P D vwCl (wd_X1_weigh cI cZ cR a_t a_t_found a_t_covering a_t_covering_bits a_t_covering_trade t_count t_covering_in t_covering_fresh t_covering_tradeSought t_found_r r10) H := hP
    have hD : va_D A (wd_X1_weigh cI cZ cR a_t a_t_found a_t_covering a_t_covering_bits a_t_covering_trade t_count t_covering_in t_covering_fresh t_covering_tradeSought t_found_r r10) := hD
    cases hf
    exact retv X hK hP hD hS dX1_weigh_63
  · have hf := ipos c9 hf
    refine lv_iload_n hx hb dX1_weigh_51 rfl (lv_at hl 3 rfl) ?_
    refine lv_if_eq (tgt := 63) hx hb dX1_weigh_52 (by decide) (fun c12 => ?_) (fun c12 => ?_)
    · have hf := ipos c12 hf
      cases hf
      exact retv X hK hP hD hS dX1_weigh_63
    · have hf := ineg c12 hf
      refine lv_aload_n hx hb dX1_weigh_55 rfl (lv_at hl 0 rfl) ?_
      refine va_get (D := D) (ci := 1) (v := .ref a_t_covering) (C := RX1) (T := TX1) (N := 3) hx hb hts in_X1_weigh_X1 hown hK hP 0 rfl rfl 1 (by decide) (hts (.fieldLink RX1 18 "DivisionHall$Leasts" "covering" "LDivisionHall$Table;") (by decide +kernel)) (fun _ h9 => h9) rfl dX1_weigh_56 ?_
      refine lv_iload_n hx hb dX1_weigh_59 rfl (lv_at hl 1 rfl) ?_
      obtain ⟨r13, hr14, hf⟩ := bnd hf
      refine wcallv (D := D) (cI := cI) (cZ := cZ) (cR := cR) (wc := (wd_X9_mark cI cZ cR a_t_covering a_t_covering_bits a_t_covering_trade t_covering_in t_covering_fresh t_covering_tradeSought t_covering_bits_r)) (w' := (wd_X9_mark cI cZ cR a_t_covering a_t_covering_bits a_t_covering_trade t_covering_in t_covering_fresh t_covering_tradeSought r13)) [1, 3] hP hD hS hA rfl rfl rfl (rnV (As := [.int x1]) (ci := 8) (q0 := 1) X [1, 3] hK hP hD rfl rfl rfl rfl (c_X9_mark l D cI cZ cR hr14) (cwV 1 hts gX1_weigh_X9_mark rfl rfl rfl (by decide +kernel) ⟨Nat.le_of_ble_eq_true rfl, Nat.le_of_ble_eq_true rfl⟩) rfl hl.1 rfl (Nat.le_of_ble_eq_true rfl) dX1_weigh_60) (fun H locs hP hD hS => ?_)
      have hP : va_P D vwCl (wd_X1_weigh cI cZ cR a_t a_t_found a_t_covering a_t_covering_bits a_t_covering_trade t_count t_covering_in t_covering_fresh t_covering_tradeSought t_found_r r13) H := hP
      have hD : va_D A (wd_X1_weigh cI cZ cR a_t a_t_found a_t_covering a_t_covering_bits a_t_covering_trade t_count t_covering_in t_covering_fresh t_covering_tradeSought t_found_r r13) := hD
      cases hf
      exact retv X hK hP hD hS dX1_weigh_63
set_option maxHeartbeats 4000000 in
set_option maxRecDepth 100000 in
theorem c_X1_weigh (l : Launch) (D : va_G) (cI cZ cR : ClassId) {a_t a_t_found a_t_covering a_t_covering_bits a_t_covering_trade : Nat} {t_count : Int32} {t_covering_in : Int32} {t_covering_fresh : Int32} {t_covering_tradeSought : Int32} {t_found_r : Nat → Int32} {t_covering_bits_r : Nat → Int32} {x1 : Int32} {x2 : Int32} {sz : Nat} {out : Int32 × (Nat → Int32) × (Nat → Int32)} (hf : F_X1_weigh x1 x2 t_count t_covering_bits_r t_found_r = some out) : CV l yX1_weigh wsX1_weigh ({ frames := 3, cells := 0, slots := 0, locals := 64 } : Room) D cI cZ cR [.ref a_t, .int x1, .int x2] (wd_X1_weigh cI cZ cR a_t a_t_found a_t_covering a_t_covering_bits a_t_covering_trade t_count t_covering_in t_covering_fresh t_covering_tradeSought t_found_r t_covering_bits_r) sz (wd_X1_weigh cI cZ cR a_t a_t_found a_t_covering a_t_covering_bits a_t_covering_trade (out.1) t_covering_in t_covering_fresh t_covering_tradeSought (out.2.2) (out.2.1)) := by
  refine met_of (Qf := fun A => qv D cI cZ cR A (wd_X1_weigh cI cZ cR a_t a_t_found a_t_covering a_t_covering_bits a_t_covering_trade (out.1) t_covering_in t_covering_fresh t_covering_tradeSought (out.2.2) (out.2.1))) RX1 (by decide +kernel) rfl rfl (Nat.le_of_ble_eq_true rfl) ?_
  intro p e s m below meth c A X hK hA hP hD hS ls hl
  have hl : lv_has ls 4 [(0, .ref a_t), (1, .int x1), (2, .int x2)] := hl
  obtain ⟨hx, hb, hml, hr, hown, hts, hlocks, hN⟩ := id X
  unfold F_X1_weigh at hf
  refine lv_aload_n hx hb dX1_weigh_0 rfl (lv_at hl 0 rfl) ?_
  refine lv_iload_n hx hb dX1_weigh_1 rfl (lv_at hl 1 rfl) ?_
  obtain ⟨r1, hr2, hf⟩ := bnd hf
  refine wcalli (D := D) (cI := cI) (cZ := cZ) (cR := cR) (wc := (wd_X1_coversOne cI cZ cR a_t a_t_found a_t_covering a_t_covering_bits a_t_covering_trade t_count t_covering_in t_covering_fresh t_covering_tradeSought t_covering_bits_r)) (w' := (wd_X1_coversOne cI cZ cR a_t a_t_found a_t_covering a_t_covering_bits a_t_covering_trade t_count t_covering_in t_covering_fresh t_covering_tradeSought t_covering_bits_r)) [0, 1, 3] hP hD hS hA rfl rfl rfl (rnV (As := [.int x1]) (ci := 1) (q0 := 0) X [0, 1, 3] hK hP hD rfl rfl rfl rfl (c_X1_coversOne l D cI cZ cR hr2) (cwV 1 hts gX1_weigh_X1_coversOne rfl rfl rfl (by decide +kernel) ⟨Nat.le_of_ble_eq_true rfl, Nat.le_of_ble_eq_true rfl⟩) rfl hl.1 rfl (Nat.le_of_ble_eq_true rfl) dX1_weigh_2) (fun H locs hP hD hS => ?_)
  have hP : va_P D vwCl (wd_X1_weigh cI cZ cR a_t a_t_found a_t_covering a_t_covering_bits a_t_covering_trade t_count t_covering_in t_covering_fresh t_covering_tradeSought t_found_r t_covering_bits_r) H := hP
  have hD : va_D A (wd_X1_weigh cI cZ cR a_t a_t_found a_t_covering a_t_covering_bits a_t_covering_trade t_count t_covering_in t_covering_fresh t_covering_tradeSought t_found_r t_covering_bits_r) := hD
  refine lv_istore_n (lv' := [(3, .int r1), (0, .ref a_t), (1, .int x1), (2, .int x2)]) hx hb dX1_weigh_5 rfl hl (by decide) rfl (fun ls hl => ?_)
  refine lv_iload_n hx hb dX1_weigh_6 rfl (lv_at hl 3 rfl) ?_
  refine lv_if_eq (tgt := 47) hx hb dX1_weigh_7 (by decide) (fun c3 => ?_) (fun c3 => ?_)
  · have hf := ipos c3 hf
    exact w_X1_weigh_47 X hK hA r1 t_count t_covering_bits_r t_found_r hf _ _ hP hD hS _ (lv_sub hl [1, 2, 3, 0] rfl)
  · have hf := ineg c3 hf
    refine lv_iload_n hx hb dX1_weigh_10 rfl (lv_at hl 0 rfl) ?_
    refine lv_if_ne (tgt := 47) hx hb dX1_weigh_11 (by decide) (fun c4 => ?_) (fun c4 => ?_)
    · have hf := ineg c4 hf
      exact w_X1_weigh_47 X hK hA r1 t_count t_covering_bits_r t_found_r hf _ _ hP hD hS _ (lv_sub hl [1, 2, 3, 0] rfl)
    · have hf := ipos c4 hf
      refine lv_aload_n hx hb dX1_weigh_14 rfl (lv_at hl 1 rfl) ?_
      refine va_get (D := D) (ci := 1) (v := .int t_count) (C := RX1) (T := TX1) (N := 3) hx hb hts in_X1_weigh_X1 hown hK hP 0 rfl rfl 2 (by decide) (hts (.fieldLink RX1 22 "DivisionHall$Leasts" "count" "I") (by decide +kernel)) (fun _ h9 => h9) rfl dX1_weigh_15 ?_
      refine lv_sipush (v := (252 : Int32)) hx hb dX1_weigh_18 (by decide) ?_
      obtain ⟨r5, hr6, hf⟩ := bnd hf
      refine wcalli (D := D) (cI := cI) (cZ := cZ) (cR := cR) (wc := (wd_X11_inside cI cZ cR)) (w' := (wd_X11_inside cI cZ cR)) [] hP hD hS hA rfl rfl rfl (rnSN (As := [.int t_count, .int (252 : Int32)]) X [] hK hP hD rfl rfl (c_X11_inside l D cI cZ cR hr6) ⟨va_cnB (host := "DivisionHall") 2 hts ggX1_weigh_X11_inside rfl rfl rfl (hN.2.1 ("DivisionHall$Leasts", 26, yX11_inside, "DivisionHall") (by decide +kernel)) (hts (.initialized RX11) (by decide +kernel)) (by decide +kernel) ⟨Nat.le_of_ble_eq_true rfl, Nat.le_of_ble_eq_true rfl⟩, hts (.static yX11_inside) (by decide +kernel), trivial⟩ rfl hl.1 rfl (Nat.le_of_ble_eq_true rfl) dX1_weigh_21) (fun H locs hP hD hS => ?_)
      have hP : va_P D vwCl (wd_X1_weigh cI cZ cR a_t a_t_found a_t_covering a_t_covering_bits a_t_covering_trade t_count t_covering_in t_covering_fresh t_covering_tradeSought t_found_r t_covering_bits_r) H := hP
      have hD : va_D A (wd_X1_weigh cI cZ cR a_t a_t_found a_t_covering a_t_covering_bits a_t_covering_trade t_count t_covering_in t_covering_fresh t_covering_tradeSought t_found_r t_covering_bits_r) := hD
      refine lv_if_eq (tgt := 47) hx hb dX1_weigh_24 (by decide) (fun c7 => ?_) (fun c7 => ?_)
      · have hf := ipos c7 hf
        exact w_X1_weigh_47 X hK hA r1 t_count t_covering_bits_r t_found_r hf _ _ hP hD hS _ (lv_sub hl [1, 2, 3, 0] rfl)
      · have hf := ineg c7 hf
        refine lv_aload_n hx hb dX1_weigh_27 rfl (lv_at hl 1 rfl) ?_
        refine va_get (D := D) (ci := 1) (v := .ref a_t_found) (C := RX1) (T := TX1) (N := 3) hx hb hts in_X1_weigh_X1 hown hK hP 0 rfl rfl 0 (by decide) (hts (.fieldLink RX1 11 "DivisionHall$Leasts" "found" "[I") (by decide +kernel)) (fun _ h9 => h9) rfl dX1_weigh_28 ?_
        refine lv_aload_n hx hb dX1_weigh_31 rfl (lv_at hl 1 rfl) ?_
        refine va_get (D := D) (ci := 1) (v := .int t_count) (C := RX1) (T := TX1) (N := 3) hx hb hts in_X1_weigh_X1 hown hK hP 0 rfl rfl 2 (by decide) (hts (.fieldLink RX1 22 "DivisionHall$Leasts" "count" "I") (by decide +kernel)) (fun _ h9 => h9) rfl dX1_weigh_32 ?_
        refine lv_iload_n hx hb dX1_weigh_35 rfl (lv_at hl 2 rfl) ?_
        obtain ⟨hi8, hf⟩ := gin_s hf
        refine va_iast hx hb hK hP hD hS 2 0 rfl rfl hi8 dX1_weigh_36 (fun H locs hP hD hS => ?_)
        have hP : va_P D vwCl (wd_X1_weigh cI cZ cR a_t a_t_found a_t_covering a_t_covering_bits a_t_covering_trade t_count t_covering_in t_covering_fresh t_covering_tradeSought (upd t_found_r (t_count).toNatClampNeg x1) t_covering_bits_r) H := hP
        have hD : va_D A (wd_X1_weigh cI cZ cR a_t a_t_found a_t_covering a_t_covering_bits a_t_covering_trade t_count t_covering_in t_covering_fresh t_covering_tradeSought (upd t_found_r (t_count).toNatClampNeg x1) t_covering_bits_r) := hD
        refine lv_aload_n hx hb dX1_weigh_37 rfl (lv_at hl 1 rfl) ?_
        refine lv_dup hx hb dX1_weigh_38 rfl ?_
        refine va_get (D := D) (ci := 1) (v := .int t_count) (C := RX1) (T := TX1) (N := 3) hx hb hts in_X1_weigh_X1 hown hK hP 0 rfl rfl 2 (by decide) (hts (.fieldLink RX1 22 "DivisionHall$Leasts" "count" "I") (by decide +kernel)) (fun _ h9 => h9) rfl dX1_weigh_39 ?_
        refine lv_iconst (v := (1 : Int32)) hx hb dX1_weigh_42 (by decide) ?_
        refine lv_iadd hx hb dX1_weigh_43 ?_
        refine va_put (D := D) (ci := 1) (v := .int (t_count + (1 : Int32))) (ty := .int) (C := RX1) (T := TX1) (N := 3) hx hb hts in_X1_weigh_X1 tyX1 tyX1_ok nmX1 hown hK hP hD hS 0 rfl rfl 2 (by decide) (hts (.fieldLink RX1 22 "DivisionHall$Leasts" "count" "I") (by decide +kernel)) (fun _ h9 => h9) rfl (by decide +kernel) rfl rfl (Nat.le_of_ble_eq_true rfl) dX1_weigh_44 (fun H locs hP hD hS => ?_)
        have hP : va_P D vwCl (wd_X1_weigh cI cZ cR a_t a_t_found a_t_covering a_t_covering_bits a_t_covering_trade (t_count + (1 : Int32)) t_covering_in t_covering_fresh t_covering_tradeSought (upd t_found_r (t_count).toNatClampNeg x1) t_covering_bits_r) H := hP
        have hD : va_D A (wd_X1_weigh cI cZ cR a_t a_t_found a_t_covering a_t_covering_bits a_t_covering_trade (t_count + (1 : Int32)) t_covering_in t_covering_fresh t_covering_tradeSought (upd t_found_r (t_count).toNatClampNeg x1) t_covering_bits_r) := hD
        exact w_X1_weigh_47 X hK hA r1 (t_count + (1 : Int32)) t_covering_bits_r (upd t_found_r (t_count).toNatClampNeg x1) hf _ _ hP hD hS _ (lv_sub hl [1, 2, 3, 0] rfl)

abbrev wd_X1_seek (cI cZ cR : ClassId) (a_p1 a_p1_bits a_p1_trade a_t a_t_found a_t_covering a_t_covering_bits a_t_covering_trade : Nat) (p1_in p1_fresh p1_tradeSought t_count t_covering_in t_covering_fresh t_covering_tradeSought : Int32) (p1_bits_r : Nat → Int32) (t_found_r : Nat → Int32) (t_covering_bits_r : Nat → Int32) : va_W := [(a_p1, oB 8 [.ref a_p1_bits, .ref a_p1_trade, .int p1_in, .int p1_fresh, .int p1_tradeSought]), (a_t, oB 1 [.ref a_t_found, .ref a_t_covering, .int t_count]), (a_p1_bits, aI cI 32 p1_bits_r), (a_t_covering, oB 8 [.ref a_t_covering_bits, .ref a_t_covering_trade, .int t_covering_in, .int t_covering_fresh, .int t_covering_tradeSought]), (a_t_found, aI cI 252 t_found_r), (a_t_covering_bits, aI cI 32 t_covering_bits_r)]
set_option maxRecDepth 100000 in
theorem in_X1_seek_X1 : ∀ w ∈ wsX10, w ∈ wsX1_seek := by decide +kernel
set_option maxRecDepth 100000 in
theorem in_X1_seek_X9 : ∀ w ∈ wsX90, w ∈ wsX1_seek := by decide +kernel
set_option maxHeartbeats 4000000 in
set_option maxRecDepth 100000 in
theorem w_X1_seek_69 {p : Program} {l : Launch} {e : Env} {s : State} {m : MethodId} {args : Array Value} {below : List Frame} {meth : Method} {c : Code} {D : va_G} {cI cZ cR : ClassId} {A : Nat → Prop} {a_p1 a_p1_bits a_p1_trade a_t a_t_found a_t_covering a_t_covering_bits a_t_covering_trade : Nat} {p1_in : Int32} {p1_fresh : Int32} {p1_tradeSought : Int32} {t_covering_fresh : Int32} {p1_bits_r : Nat → Int32} {x2 : Int32} {rec18 : Int32 → Int32 → Int32 → Int32 → (Nat → Int32) → (Nat → Int32) → Option (Int32 × Int32 × Int32 × (Nat → Int32) × (Nat → Int32))} {out : Int32 × Int32 × Int32 × (Nat → Int32) × (Nat → Int32)} (X : cx p s m args meth c cX1_seek 5 none RX1 wsX1_seek) (hK : va_K D vwCl (ty3 cI cZ cR) s) (hA : ∀ q, s.heap.size ≤ q → A q) (hrec18 : ∀ (x3 : Int32) (t_count : Int32) (t_covering_in : Int32) (t_covering_tradeSought : Int32) (t_covering_bits_r : Nat → Int32) (t_found_r : Nat → Int32), rec18 x3 t_count t_covering_in t_covering_tradeSought t_covering_bits_r t_found_r = some out → ∀ (H : Heap) (locs : List Loc), va_P D vwCl (wd_X1_seek cI cZ cR a_p1 a_p1_bits a_p1_trade a_t a_t_found a_t_covering a_t_covering_bits a_t_covering_trade p1_in p1_fresh p1_tradeSought t_count t_covering_in t_covering_fresh t_covering_tradeSought p1_bits_r t_found_r t_covering_bits_r) H → va_D A (wd_X1_seek cI cZ cR a_p1 a_p1_bits a_p1_trade a_t a_t_found a_t_covering a_t_covering_bits a_t_covering_trade p1_in p1_fresh p1_tradeSought t_count t_covering_in t_covering_fresh t_covering_tradeSought p1_bits_r t_found_r t_covering_bits_r) → va_S A s.heap H locs → ∀ (ls : Array Slot), lv_has ls 5 [(0, .ref a_t), (1, .ref a_p1), (2, .int x2), (3, .int x3)] → W p l e (headSpec wsX1_seek ({ frames := 4, cells := 0, slots := 0, locals := 87 } : Room)).room s m args below meth c H locs 0 0 (MQ below (qv D cI cZ cR A (wd_X1_seek cI cZ cR a_p1 a_p1_bits a_p1_trade a_t a_t_found a_t_covering a_t_covering_bits a_t_covering_trade p1_in p1_fresh p1_tradeSought (out.1) (out.2.1) t_covering_fresh (out.2.2.1) p1_bits_r (out.2.2.2.2) (out.2.2.2.1))) args s 0 0 A) (F0 m 18 ls [])) : ∀ (x3 : Int32) (s0 : Int32) (t_count : Int32) (t_covering_in : Int32) (t_covering_tradeSought : Int32) (t_covering_bits_r : Nat → Int32) (t_found_r : Nat → Int32), F_X1_seek_69 x2 p1_in p1_bits_r rec18 x3 s0 t_count t_covering_in t_covering_tradeSought t_covering_bits_r t_found_r = some out → ∀ (H : Heap) (locs : List Loc), va_P D vwCl (wd_X1_seek cI cZ cR a_p1 a_p1_bits a_p1_trade a_t a_t_found a_t_covering a_t_covering_bits a_t_covering_trade p1_in p1_fresh p1_tradeSought t_count t_covering_in t_covering_fresh t_covering_tradeSought p1_bits_r t_found_r t_covering_bits_r) H → va_D A (wd_X1_seek cI cZ cR a_p1 a_p1_bits a_p1_trade a_t a_t_found a_t_covering a_t_covering_bits a_t_covering_trade p1_in p1_fresh p1_tradeSought t_count t_covering_in t_covering_fresh t_covering_tradeSought p1_bits_r t_found_r t_covering_bits_r) → va_S A s.heap H locs → ∀ (ls : Array Slot), lv_has ls 5 [(0, .ref a_t), (1, .ref a_p1), (2, .int x2), (3, .int x3)] → W p l e (headSpec wsX1_seek ({ frames := 4, cells := 0, slots := 0, locals := 87 } : Room)).room s m args below meth c H locs 0 0 (MQ below (qv D cI cZ cR A (wd_X1_seek cI cZ cR a_p1 a_p1_bits a_p1_trade a_t a_t_found a_t_covering a_t_covering_bits a_t_covering_trade p1_in p1_fresh p1_tradeSought (out.1) (out.2.1) t_covering_fresh (out.2.2.1) p1_bits_r (out.2.2.2.2) (out.2.2.2.1))) args s 0 0 A) (F0 m 69 ls [.int s0]) := by
  obtain ⟨hx, hb, hml, hr, hown, hts, hlocks, hN⟩ := id X
  intro x3 s0 t_count t_covering_in t_covering_tradeSought t_covering_bits_r t_found_r hf H locs hP hD hS ls hl
  unfold F_X1_seek_69 at hf
  refine lv_istore (lv' := [(4, .int s0), (0, .ref a_t), (1, .ref a_p1), (2, .int x2), (3, .int x3)]) hx hb dX1_seek_69 hl (by decide) rfl (fun ls hl => ?_)
  refine lv_aload_n hx hb dX1_seek_71 rfl (lv_at hl 1 rfl) ?_
  refine lv_iload_n hx hb dX1_seek_72 rfl (lv_at hl 4 rfl) ?_
  refine lv_iload hx hb dX1_seek_73 (lv_at hl 0 rfl) ?_
  obtain ⟨r13, hr14, hf⟩ := bnd hf
  refine wcallv (D := D) (cI := cI) (cZ := cZ) (cR := cR) (wc := (wd_X1_weigh cI cZ cR a_t a_t_found a_t_covering a_t_covering_bits a_t_covering_trade t_count t_covering_in t_covering_fresh t_covering_tradeSought t_found_r t_covering_bits_r)) (w' := (wd_X1_weigh cI cZ cR a_t a_t_found a_t_covering a_t_covering_bits a_t_covering_trade (r13.1) t_covering_in t_covering_fresh t_covering_tradeSought (r13.2.2) (r13.2.1))) [1, 3, 4, 5] hP hD hS hA rfl rfl rfl (rnV (As := [.int x3, .int s0]) (ci := 1) (q0 := 1) X [1, 3, 4, 5] hK hP hD rfl rfl rfl rfl (c_X1_weigh l D cI cZ cR hr14) (cwV 2 hts gX1_seek_X1_weigh rfl rfl rfl (by decide +kernel) ⟨Nat.le_of_ble_eq_true rfl, Nat.le_of_ble_eq_true rfl⟩) rfl hl.1 rfl (Nat.le_of_ble_eq_true rfl) dX1_seek_75) (fun H locs hP hD hS => ?_)
  have hP : va_P D vwCl (wd_X1_seek cI cZ cR a_p1 a_p1_bits a_p1_trade a_t a_t_found a_t_covering a_t_covering_bits a_t_covering_trade p1_in p1_fresh p1_tradeSought (r13.1) t_covering_in t_covering_fresh t_covering_tradeSought p1_bits_r (r13.2.2) (r13.2.1)) H := hP
  have hD : va_D A (wd_X1_seek cI cZ cR a_p1 a_p1_bits a_p1_trade a_t a_t_found a_t_covering a_t_covering_bits a_t_covering_trade p1_in p1_fresh p1_tradeSought (r13.1) t_covering_in t_covering_fresh t_covering_tradeSought p1_bits_r (r13.2.2) (r13.2.1)) := hD
  refine lv_iinc (v := (x3 + (1 : Int32))) (lv' := [(3, .int (x3 + (1 : Int32))), (4, .int s0), (0, .ref a_t), (1, .ref a_p1), (2, .int x2)]) hx hb dX1_seek_78 hl (k := 4) rfl rfl (by decide) rfl (fun ls hl => ?_)
  refine lv_goto (tgt := 18) hx hb dX1_seek_81 (by decide) ?_
  exact hrec18 (x3 + (1 : Int32)) (r13.1) t_covering_in t_covering_tradeSought (r13.2.1) (r13.2.2) hf _ _ hP hD hS _ (lv_sub hl [2, 3, 4, 0] rfl)
set_option maxHeartbeats 4000000 in
set_option maxRecDepth 100000 in
theorem w_X1_seek_18 {p : Program} {l : Launch} {e : Env} {s : State} {m : MethodId} {args : Array Value} {below : List Frame} {meth : Method} {c : Code} {D : va_G} {cI cZ cR : ClassId} {A : Nat → Prop} {a_p1 a_p1_bits a_p1_trade a_t a_t_found a_t_covering a_t_covering_bits a_t_covering_trade : Nat} {p1_in : Int32} {p1_fresh : Int32} {p1_tradeSought : Int32} {t_covering_fresh : Int32} {p1_bits_r : Nat → Int32} {x2 : Int32} {out : Int32 × Int32 × Int32 × (Nat → Int32) × (Nat → Int32)} (X : cx p s m args meth c cX1_seek 5 none RX1 wsX1_seek) (hK : va_K D vwCl (ty3 cI cZ cR) s) (hA : ∀ q, s.heap.size ≤ q → A q) : ∀ (n : Nat) (x3 : Int32) (t_count : Int32) (t_covering_in : Int32) (t_covering_tradeSought : Int32) (t_covering_bits_r : Nat → Int32) (t_found_r : Nat → Int32), F_X1_seek_18 x2 p1_in p1_bits_r n x3 t_count t_covering_in t_covering_tradeSought t_covering_bits_r t_found_r = some out → ∀ (H : Heap) (locs : List Loc), va_P D vwCl (wd_X1_seek cI cZ cR a_p1 a_p1_bits a_p1_trade a_t a_t_found a_t_covering a_t_covering_bits a_t_covering_trade p1_in p1_fresh p1_tradeSought t_count t_covering_in t_covering_fresh t_covering_tradeSought p1_bits_r t_found_r t_covering_bits_r) H → va_D A (wd_X1_seek cI cZ cR a_p1 a_p1_bits a_p1_trade a_t a_t_found a_t_covering a_t_covering_bits a_t_covering_trade p1_in p1_fresh p1_tradeSought t_count t_covering_in t_covering_fresh t_covering_tradeSought p1_bits_r t_found_r t_covering_bits_r) → va_S A s.heap H locs → ∀ (ls : Array Slot), lv_has ls 5 [(0, .ref a_t), (1, .ref a_p1), (2, .int x2), (3, .int x3)] → W p l e (headSpec wsX1_seek ({ frames := 4, cells := 0, slots := 0, locals := 87 } : Room)).room s m args below meth c H locs 0 0 (MQ below (qv D cI cZ cR A (wd_X1_seek cI cZ cR a_p1 a_p1_bits a_p1_trade a_t a_t_found a_t_covering a_t_covering_bits a_t_covering_trade p1_in p1_fresh p1_tradeSought (out.1) (out.2.1) t_covering_fresh (out.2.2.1) p1_bits_r (out.2.2.2.2) (out.2.2.2.1))) args s 0 0 A) (F0 m 18 ls []) := by
  obtain ⟨hx, hb, hml, hr, hown, hts, hlocks, hN⟩ := id X
  intro n
  induction n with
  | zero =>
    intro x3 t_count t_covering_in t_covering_tradeSought t_covering_bits_r t_found_r hf
    cases (show (none : Option (Int32 × Int32 × Int32 × (Nat → Int32) × (Nat → Int32))) = some out from hf)
  | succ n ih =>
    intro x3 t_count t_covering_in t_covering_tradeSought t_covering_bits_r t_found_r hf H locs hP hD hS ls hl
    rw [F_X1_seek_18] at hf
    refine lv_iload_n hx hb dX1_seek_18 rfl (lv_at hl 3 rfl) ?_
    refine lv_aload_n hx hb dX1_seek_19 rfl (lv_at hl 1 rfl) ?_
    refine va_getN (D := D) (ci := 8) (v := .int p1_in) (C := RX9) (T := TX9) (N := 5) hx hb hts in_X1_seek_X9 hown hK hP 0 rfl rfl 2 (by decide) (va_Nw.use rfl (hN.1 ("DivisionHall$Leasts", 30, "DivisionHall$Table", "in", "I", "DivisionHall") (by decide +kernel))) (fun _ h9 => h9) rfl dX1_seek_20 ?_
    refine lv_icmp_gt (tgt := 84) hx hb dX1_seek_23 (by decide) (fun c3 => ?_) (fun c3 => ?_)
    · have hf := ipos c3 hf
      cases hf
      exact retv X hK hP hD hS dX1_seek_84
    · have hf := ineg c3 hf
      refine lv_iload_n hx hb dX1_seek_26 rfl (lv_at hl 3 rfl) ?_
      refine lv_aload_n hx hb dX1_seek_27 rfl (lv_at hl 1 rfl) ?_
      refine va_getN (D := D) (ci := 8) (v := .int p1_in) (C := RX9) (T := TX9) (N := 5) hx hb hts in_X1_seek_X9 hown hK hP 0 rfl rfl 2 (by decide) (va_Nw.use rfl (hN.1 ("DivisionHall$Leasts", 30, "DivisionHall$Table", "in", "I", "DivisionHall") (by decide +kernel))) (fun _ h9 => h9) rfl dX1_seek_28 ?_
      obtain ⟨r4, hr5, hf⟩ := bnd hf
      refine wcalli (D := D) (cI := cI) (cZ := cZ) (cR := cR) (wc := (wd_X11_isWithin cI cZ cR)) (w' := (wd_X11_isWithin cI cZ cR)) [] hP hD hS hA rfl rfl rfl (rnSN (As := [.int x3, .int p1_in]) X [] hK hP hD rfl rfl (c_X11_isWithin l D cI cZ cR hr5) ⟨va_cnB (host := "DivisionHall") 2 hts ggX1_seek_X11_isWithin rfl rfl rfl (hN.2.1 ("DivisionHall$Leasts", 37, yX11_isWithin, "DivisionHall") (by decide +kernel)) (hts (.initialized RX11) (by decide +kernel)) (by decide +kernel) ⟨Nat.le_of_ble_eq_true rfl, Nat.le_of_ble_eq_true rfl⟩, hts (.static yX11_isWithin) (by decide +kernel), trivial⟩ rfl hl.1 rfl (Nat.le_of_ble_eq_true rfl) dX1_seek_31) (fun H locs hP hD hS => ?_)
      have hP : va_P D vwCl (wd_X1_seek cI cZ cR a_p1 a_p1_bits a_p1_trade a_t a_t_found a_t_covering a_t_covering_bits a_t_covering_trade p1_in p1_fresh p1_tradeSought t_count t_covering_in t_covering_fresh t_covering_tradeSought p1_bits_r t_found_r t_covering_bits_r) H := hP
      have hD : va_D A (wd_X1_seek cI cZ cR a_p1 a_p1_bits a_p1_trade a_t a_t_found a_t_covering a_t_covering_bits a_t_covering_trade p1_in p1_fresh p1_tradeSought t_count t_covering_in t_covering_fresh t_covering_tradeSought p1_bits_r t_found_r t_covering_bits_r) := hD
      refine lv_if_eq (tgt := 78) hx hb dX1_seek_34 (by decide) (fun c6 => ?_) (fun c6 => ?_)
      · have hf := ipos c6 hf
        refine lv_iinc (v := (x3 + (1 : Int32))) (lv' := [(3, .int (x3 + (1 : Int32))), (0, .ref a_t), (1, .ref a_p1), (2, .int x2)]) hx hb dX1_seek_78 hl (k := 3) rfl rfl (by decide) rfl (fun ls hl => ?_)
        refine lv_goto (tgt := 18) hx hb dX1_seek_81 (by decide) ?_
        exact ih (x3 + (1 : Int32)) t_count t_covering_in t_covering_tradeSought t_covering_bits_r t_found_r hf _ _ hP hD hS _ (lv_sub hl [1, 2, 3, 0] rfl)
      · have hf := ineg c6 hf
        refine lv_iload_n hx hb dX1_seek_37 rfl (lv_at hl 2 rfl) ?_
        refine lv_if_eq (tgt := 64) hx hb dX1_seek_38 (by decide) (fun c7 => ?_) (fun c7 => ?_)
        · have hf := ipos c7 hf
          refine lv_aload_n hx hb dX1_seek_64 rfl (lv_at hl 1 rfl) ?_
          refine lv_iload_n hx hb dX1_seek_65 rfl (lv_at hl 3 rfl) ?_
          obtain ⟨r8, hr9, hf⟩ := bnd hf
          refine wcalli (D := D) (cI := cI) (cZ := cZ) (cR := cR) (wc := (wd_X9_at cI cZ cR a_p1 a_p1_bits a_p1_trade p1_in p1_fresh p1_tradeSought p1_bits_r)) (w' := (wd_X9_at cI cZ cR a_p1 a_p1_bits a_p1_trade p1_in p1_fresh p1_tradeSought p1_bits_r)) [0, 2] hP hD hS hA rfl rfl rfl (rnV (As := [.int x3]) (ci := 8) (q0 := 0) X [0, 2] hK hP hD rfl rfl rfl rfl (c_X9_at l D cI cZ cR hr9) (cwV 1 hts gX1_seek_X9_at rfl rfl rfl (by decide +kernel) ⟨Nat.le_of_ble_eq_true rfl, Nat.le_of_ble_eq_true rfl⟩) rfl hl.1 rfl (Nat.le_of_ble_eq_true rfl) dX1_seek_66) (fun H locs hP hD hS => ?_)
          have hP : va_P D vwCl (wd_X1_seek cI cZ cR a_p1 a_p1_bits a_p1_trade a_t a_t_found a_t_covering a_t_covering_bits a_t_covering_trade p1_in p1_fresh p1_tradeSought t_count t_covering_in t_covering_fresh t_covering_tradeSought p1_bits_r t_found_r t_covering_bits_r) H := hP
          have hD : va_D A (wd_X1_seek cI cZ cR a_p1 a_p1_bits a_p1_trade a_t a_t_found a_t_covering a_t_covering_bits a_t_covering_trade p1_in p1_fresh p1_tradeSought t_count t_covering_in t_covering_fresh t_covering_tradeSought p1_bits_r t_found_r t_covering_bits_r) := hD
          exact w_X1_seek_69 X hK hA ih x3 r8 t_count t_covering_in t_covering_tradeSought t_covering_bits_r t_found_r hf _ _ hP hD hS _ (lv_sub hl [0, 1, 2, 3] rfl)
        · have hf := ineg c7 hf
          refine lv_aload_n hx hb dX1_seek_41 rfl (lv_at hl 1 rfl) ?_
          refine lv_aload_n hx hb dX1_seek_42 rfl (lv_at hl 1 rfl) ?_
          refine va_getN (D := D) (ci := 8) (v := .int p1_in) (C := RX9) (T := TX9) (N := 5) hx hb hts in_X1_seek_X9 hown hK hP 0 rfl rfl 2 (by decide) (va_Nw.use rfl (hN.1 ("DivisionHall$Leasts", 30, "DivisionHall$Table", "in", "I", "DivisionHall") (by decide +kernel))) (fun _ h9 => h9) rfl dX1_seek_43 ?_
          refine lv_iload_n hx hb dX1_seek_46 rfl (lv_at hl 3 rfl) ?_
          refine lv_iconst (v := (-1 : Int32)) hx hb dX1_seek_47 (by decide) ?_
          refine lv_ixor hx hb dX1_seek_48 ?_
          refine lv_iand hx hb dX1_seek_49 ?_
          obtain ⟨r10, hr11, hf⟩ := bnd hf
          refine wcalli (D := D) (cI := cI) (cZ := cZ) (cR := cR) (wc := (wd_X9_at cI cZ cR a_p1 a_p1_bits a_p1_trade p1_in p1_fresh p1_tradeSought p1_bits_r)) (w' := (wd_X9_at cI cZ cR a_p1 a_p1_bits a_p1_trade p1_in p1_fresh p1_tradeSought p1_bits_r)) [0, 2] hP hD hS hA rfl rfl rfl (rnV (As := [.int (p1_in &&& (x3 ^^^ (-1 : Int32)))]) (ci := 8) (q0 := 0) X [0, 2] hK hP hD rfl rfl rfl rfl (c_X9_at l D cI cZ cR hr11) (cwV 1 hts gX1_seek_X9_at rfl rfl rfl (by decide +kernel) ⟨Nat.le_of_ble_eq_true rfl, Nat.le_of_ble_eq_true rfl⟩) rfl hl.1 rfl (Nat.le_of_ble_eq_true rfl) dX1_seek_50) (fun H locs hP hD hS => ?_)
          have hP : va_P D vwCl (wd_X1_seek cI cZ cR a_p1 a_p1_bits a_p1_trade a_t a_t_found a_t_covering a_t_covering_bits a_t_covering_trade p1_in p1_fresh p1_tradeSought t_count t_covering_in t_covering_fresh t_covering_tradeSought p1_bits_r t_found_r t_covering_bits_r) H := hP
          have hD : va_D A (wd_X1_seek cI cZ cR a_p1 a_p1_bits a_p1_trade a_t a_t_found a_t_covering a_t_covering_bits a_t_covering_trade p1_in p1_fresh p1_tradeSought t_count t_covering_in t_covering_fresh t_covering_tradeSought p1_bits_r t_found_r t_covering_bits_r) := hD
          refine lv_if_ne (tgt := 60) hx hb dX1_seek_53 (by decide) (fun c12 => ?_) (fun c12 => ?_)
          · have hf := ineg c12 hf
            refine lv_iconst (v := (0 : Int32)) hx hb dX1_seek_60 (by decide) ?_
            refine lv_goto (tgt := 69) hx hb dX1_seek_61 (by decide) ?_
            exact w_X1_seek_69 X hK hA ih x3 (0 : Int32) t_count t_covering_in t_covering_tradeSought t_covering_bits_r t_found_r hf _ _ hP hD hS _ (lv_sub hl [0, 1, 2, 3] rfl)
          · have hf := ipos c12 hf
            refine lv_iconst (v := (1 : Int32)) hx hb dX1_seek_56 (by decide) ?_
            refine lv_goto (tgt := 69) hx hb dX1_seek_57 (by decide) ?_
            exact w_X1_seek_69 X hK hA ih x3 (1 : Int32) t_count t_covering_in t_covering_tradeSought t_covering_bits_r t_found_r hf _ _ hP hD hS _ (lv_sub hl [0, 1, 2, 3] rfl)
set_option maxHeartbeats 4000000 in
set_option maxRecDepth 100000 in
theorem c_X1_seek (l : Launch) (D : va_G) (cI cZ cR : ClassId) {a_p1 a_p1_bits a_p1_trade a_t a_t_found a_t_covering a_t_covering_bits a_t_covering_trade : Nat} {p1_in : Int32} {p1_fresh : Int32} {p1_tradeSought : Int32} {t_count : Int32} {t_covering_in : Int32} {t_covering_fresh : Int32} {t_covering_tradeSought : Int32} {p1_bits_r : Nat → Int32} {t_found_r : Nat → Int32} {t_covering_bits_r : Nat → Int32} {x2 : Int32} {sz : Nat} {out : Int32 × Int32 × Int32 × (Nat → Int32) × (Nat → Int32)} (hf : F_X1_seek x2 p1_in p1_bits_r t_count t_covering_in t_covering_tradeSought t_covering_bits_r t_found_r = some out) : CV l yX1_seek wsX1_seek ({ frames := 4, cells := 0, slots := 0, locals := 87 } : Room) D cI cZ cR [.ref a_t, .ref a_p1, .int x2] (wd_X1_seek cI cZ cR a_p1 a_p1_bits a_p1_trade a_t a_t_found a_t_covering a_t_covering_bits a_t_covering_trade p1_in p1_fresh p1_tradeSought t_count t_covering_in t_covering_fresh t_covering_tradeSought p1_bits_r t_found_r t_covering_bits_r) sz (wd_X1_seek cI cZ cR a_p1 a_p1_bits a_p1_trade a_t a_t_found a_t_covering a_t_covering_bits a_t_covering_trade p1_in p1_fresh p1_tradeSought (out.1) (out.2.1) t_covering_fresh (out.2.2.1) p1_bits_r (out.2.2.2.2) (out.2.2.2.1)) := by
  refine met_of (Qf := fun A => qv D cI cZ cR A (wd_X1_seek cI cZ cR a_p1 a_p1_bits a_p1_trade a_t a_t_found a_t_covering a_t_covering_bits a_t_covering_trade p1_in p1_fresh p1_tradeSought (out.1) (out.2.1) t_covering_fresh (out.2.2.1) p1_bits_r (out.2.2.2.2) (out.2.2.2.1))) RX1 (by decide +kernel) rfl rfl (Nat.le_of_ble_eq_true rfl) ?_
  intro p e s m below meth c A X hK hA hP hD hS ls hl
  have hl : lv_has ls 5 [(0, .ref a_t), (1, .ref a_p1), (2, .int x2)] := hl
  obtain ⟨hx, hb, hml, hr, hown, hts, hlocks, hN⟩ := id X
  unfold F_X1_seek at hf
  refine lv_aload_n hx hb dX1_seek_0 rfl (lv_at hl 0 rfl) ?_
  refine lv_iconst (v := (0 : Int32)) hx hb dX1_seek_1 (by decide) ?_
  refine va_put (D := D) (ci := 1) (v := .int (0 : Int32)) (ty := .int) (C := RX1) (T := TX1) (N := 3) hx hb hts in_X1_seek_X1 tyX1 tyX1_ok nmX1 hown hK hP hD hS 1 rfl rfl 2 (by decide) (hts (.fieldLink RX1 22 "DivisionHall$Leasts" "count" "I") (by decide +kernel)) (fun _ h9 => h9) rfl (by decide +kernel) rfl rfl (Nat.le_of_ble_eq_true rfl) dX1_seek_2 (fun H locs hP hD hS => ?_)
  have hP : va_P D vwCl (wd_X1_seek cI cZ cR a_p1 a_p1_bits a_p1_trade a_t a_t_found a_t_covering a_t_covering_bits a_t_covering_trade p1_in p1_fresh p1_tradeSought (0 : Int32) t_covering_in t_covering_fresh t_covering_tradeSought p1_bits_r t_found_r t_covering_bits_r) H := hP
  have hD : va_D A (wd_X1_seek cI cZ cR a_p1 a_p1_bits a_p1_trade a_t a_t_found a_t_covering a_t_covering_bits a_t_covering_trade p1_in p1_fresh p1_tradeSought (0 : Int32) t_covering_in t_covering_fresh t_covering_tradeSought p1_bits_r t_found_r t_covering_bits_r) := hD
  refine lv_aload_n hx hb dX1_seek_5 rfl (lv_at hl 0 rfl) ?_
  refine va_get (D := D) (ci := 1) (v := .ref a_t_covering) (C := RX1) (T := TX1) (N := 3) hx hb hts in_X1_seek_X1 hown hK hP 1 rfl rfl 1 (by decide) (hts (.fieldLink RX1 18 "DivisionHall$Leasts" "covering" "LDivisionHall$Table;") (by decide +kernel)) (fun _ h9 => h9) rfl dX1_seek_6 ?_
  refine lv_aload_n hx hb dX1_seek_9 rfl (lv_at hl 1 rfl) ?_
  refine va_getN (D := D) (ci := 8) (v := .int p1_in) (C := RX9) (T := TX9) (N := 5) hx hb hts in_X1_seek_X9 hown hK hP 0 rfl rfl 2 (by decide) (va_Nw.use rfl (hN.1 ("DivisionHall$Leasts", 30, "DivisionHall$Table", "in", "I", "DivisionHall") (by decide +kernel))) (fun _ h9 => h9) rfl dX1_seek_10 ?_
  obtain ⟨r1, hr2, hf⟩ := bnd hf
  refine wcallv (D := D) (cI := cI) (cZ := cZ) (cR := cR) (wc := (wd_X9_clear cI cZ cR a_t_covering a_t_covering_bits a_t_covering_trade t_covering_in t_covering_fresh t_covering_tradeSought t_covering_bits_r)) (w' := (wd_X9_clear cI cZ cR a_t_covering a_t_covering_bits a_t_covering_trade (r1.1) t_covering_fresh (r1.2.1) (r1.2.2))) [3, 5] hP hD hS hA rfl rfl rfl (rnV (As := [.int p1_in]) (ci := 8) (q0 := 3) X [3, 5] hK hP hD rfl rfl rfl rfl (c_X9_clear l D cI cZ cR hr2) (cwV 1 hts gX1_seek_X9_clear rfl rfl rfl (by decide +kernel) ⟨Nat.le_of_ble_eq_true rfl, Nat.le_of_ble_eq_true rfl⟩) rfl hl.1 rfl (Nat.le_of_ble_eq_true rfl) dX1_seek_13) (fun H locs hP hD hS => ?_)
  have hP : va_P D vwCl (wd_X1_seek cI cZ cR a_p1 a_p1_bits a_p1_trade a_t a_t_found a_t_covering a_t_covering_bits a_t_covering_trade p1_in p1_fresh p1_tradeSought (0 : Int32) (r1.1) t_covering_fresh (r1.2.1) p1_bits_r t_found_r (r1.2.2)) H := hP
  have hD : va_D A (wd_X1_seek cI cZ cR a_p1 a_p1_bits a_p1_trade a_t a_t_found a_t_covering a_t_covering_bits a_t_covering_trade p1_in p1_fresh p1_tradeSought (0 : Int32) (r1.1) t_covering_fresh (r1.2.1) p1_bits_r t_found_r (r1.2.2)) := hD
  refine lv_iconst (v := (0 : Int32)) hx hb dX1_seek_16 (by decide) ?_
  refine lv_istore_n (lv' := [(3, .int (0 : Int32)), (0, .ref a_t), (1, .ref a_p1), (2, .int x2)]) hx hb dX1_seek_17 rfl hl (by decide) rfl (fun ls hl => ?_)
  exact w_X1_seek_18 X hK hA _ (0 : Int32) (0 : Int32) (r1.1) (r1.2.1) (r1.2.2) t_found_r hf _ _ hP hD hS _ (lv_sub hl [1, 2, 3, 0] rfl)
