abbrev wd_X9_oddSet (cI cZ cR : ClassId) (a_t a_t_bits a_t_trade : Nat) (t_in t_fresh t_tradeSought : Int32) (t_bits_r : Nat → Int32) : va_W := [(a_t, oB 8 [.ref a_t_bits, .ref a_t_trade, .int t_in, .int t_fresh, .int t_tradeSought]), (a_t_bits, aI cI 32 t_bits_r)]
set_option maxRecDepth 100000 in
theorem in_X9_oddSet_X9 : ∀ w ∈ wsX90, w ∈ wsX9_oddSet := by decide +kernel
set_option maxHeartbeats 4000000 in
set_option maxRecDepth 100000 in
theorem w_X9_oddSet_2 {p : Program} {l : Launch} {e : Env} {s : State} {m : MethodId} {args : Array Value} {below : List Frame} {meth : Method} {c : Code} {D : va_G} {cI cZ cR : ClassId} {A : Nat → Prop} {a_t a_t_bits a_t_trade : Nat} {t_in : Int32} {t_fresh : Int32} {t_tradeSought : Int32} {t_bits_r : Nat → Int32} {out : Int32} (X : cx p s m args meth c cX9_oddSet 2 (some .int) RX9 wsX9_oddSet) (hK : va_K D vwCl (ty3 cI cZ cR) s) (hA : ∀ q, s.heap.size ≤ q → A q) : ∀ (n : Nat) (x1 : Int32), F_X9_oddSet_2 t_in t_bits_r n x1 = some out → ∀ (H : Heap) (locs : List Loc), va_P D vwCl (wd_X9_oddSet cI cZ cR a_t a_t_bits a_t_trade t_in t_fresh t_tradeSought t_bits_r) H → va_D A (wd_X9_oddSet cI cZ cR a_t a_t_bits a_t_trade t_in t_fresh t_tradeSought t_bits_r) → va_S A s.heap H locs → ∀ (ls : Array Slot), lv_has ls 2 [(0, .ref a_t), (1, .int x1)] → W p l e (headSpec wsX9_oddSet ({ frames := 3, cells := 0, slots := 0, locals := 65 } : Room)).room s m args below meth c H locs 0 0 (MQ below (qi D cI cZ cR A (out) (wd_X9_oddSet cI cZ cR a_t a_t_bits a_t_trade t_in t_fresh t_tradeSought t_bits_r)) args s 0 0 A) (F0 m 2 ls []) := by
  obtain ⟨hx, hb, hml, hr, hown, hts, hlocks, hN⟩ := id X
  intro n
  induction n with
  | zero =>
    intro x1 hf
    cases (show (none : Option (Int32)) = some out from hf)
  | succ n ih =>
    intro x1 hf H locs hP hD hS ls hl
    rw [F_X9_oddSet_2] at hf
    refine lv_iload_n hx hb dX9_oddSet_2 rfl (lv_at hl 1 rfl) ?_
    refine lv_aload_n hx hb dX9_oddSet_3 rfl (lv_at hl 0 rfl) ?_
    refine va_get (D := D) (ci := 8) (v := .int t_in) (C := RX9) (T := TX9) (N := 5) hx hb hts in_X9_oddSet_X9 hown hK hP 0 rfl rfl 2 (by decide) (hts (.fieldLink RX9 24 "DivisionHall$Table" "in" "I") (by decide +kernel)) (fun _ h9 => h9) rfl dX9_oddSet_4 ?_
    refine lv_icmp_gt (tgt := 46) hx hb dX9_oddSet_7 (by decide) (fun c1 => ?_) (fun c1 => ?_)
    · have hf := ipos c1 hf
      refine lv_iconst (v := (-1 : Int32)) hx hb dX9_oddSet_46 (by decide) ?_
      cases hf
      exact reti X hK hP hD hS dX9_oddSet_47
    · have hf := ineg c1 hf
      refine lv_iload_n hx hb dX9_oddSet_10 rfl (lv_at hl 1 rfl) ?_
      refine lv_aload_n hx hb dX9_oddSet_11 rfl (lv_at hl 0 rfl) ?_
      refine va_get (D := D) (ci := 8) (v := .int t_in) (C := RX9) (T := TX9) (N := 5) hx hb hts in_X9_oddSet_X9 hown hK hP 0 rfl rfl 2 (by decide) (hts (.fieldLink RX9 24 "DivisionHall$Table" "in" "I") (by decide +kernel)) (fun _ h9 => h9) rfl dX9_oddSet_12 ?_
      obtain ⟨r2, hr3, hf⟩ := bnd hf
      refine wcalli (D := D) (cI := cI) (cZ := cZ) (cR := cR) (wc := (wd_X11_isWithin cI cZ cR)) (w' := (wd_X11_isWithin cI cZ cR)) [] hP hD hS hA rfl rfl rfl (rnSN (As := [.int x1, .int t_in]) X [] hK hP hD rfl rfl (c_X11_isWithin l D cI cZ cR hr3) ⟨va_cnB (host := "DivisionHall") 2 hts ggX9_oddSet_X11_isWithin rfl rfl rfl (hN.2.1 ("DivisionHall$Table", 39, yX11_isWithin, "DivisionHall") (by decide +kernel)) (hts (.initialized RX11) (by decide +kernel)) (by decide +kernel) ⟨Nat.le_of_ble_eq_true rfl, Nat.le_of_ble_eq_true rfl⟩, hts (.static yX11_isWithin) (by decide +kernel), trivial⟩ rfl hl.1 rfl (Nat.le_of_ble_eq_true rfl) dX9_oddSet_15) (fun H locs hP hD hS => ?_)
      have hP : va_P D vwCl (wd_X9_oddSet cI cZ cR a_t a_t_bits a_t_trade t_in t_fresh t_tradeSought t_bits_r) H := hP
      have hD : va_D A (wd_X9_oddSet cI cZ cR a_t a_t_bits a_t_trade t_in t_fresh t_tradeSought t_bits_r) := hD
      refine lv_if_eq (tgt := 40) hx hb dX9_oddSet_18 (by decide) (fun c4 => ?_) (fun c4 => ?_)
      · have hf := ipos c4 hf
        refine lv_iinc (v := (x1 + (1 : Int32))) (lv' := [(1, .int (x1 + (1 : Int32))), (0, .ref a_t)]) hx hb dX9_oddSet_40 hl (k := 1) rfl rfl (by decide) rfl (fun ls hl => ?_)
        refine lv_goto (tgt := 2) hx hb dX9_oddSet_43 (by decide) ?_
        exact ih (x1 + (1 : Int32)) hf _ _ hP hD hS _ (lv_sub hl [1, 0] rfl)
      · have hf := ineg c4 hf
        refine lv_aload_n hx hb dX9_oddSet_21 rfl (lv_at hl 0 rfl) ?_
        refine lv_iload_n hx hb dX9_oddSet_22 rfl (lv_at hl 1 rfl) ?_
        obtain ⟨r5, hr6, hf⟩ := bnd hf
        refine wcalliA (D := D) (cI := cI) (cZ := cZ) (cR := cR) (wc := (wd_X9_at cI cZ cR a_t a_t_bits a_t_trade t_in t_fresh t_tradeSought t_bits_r)) (w' := (wd_X9_at cI cZ cR a_t a_t_bits a_t_trade t_in t_fresh t_tradeSought t_bits_r)) hP hD hS hA rfl (rnVA (As := [.int x1]) (ci := 8) (q0 := 0) X hK hP hD rfl rfl (c_X9_at l D cI cZ cR hr6) (cwV 1 hts gX9_oddSet_X9_at rfl rfl rfl (by decide +kernel) ⟨Nat.le_of_ble_eq_true rfl, Nat.le_of_ble_eq_true rfl⟩) rfl hl.1 rfl (Nat.le_of_ble_eq_true rfl) dX9_oddSet_23) (fun H locs hP hD hS => ?_)
        have hP : va_P D vwCl (wd_X9_oddSet cI cZ cR a_t a_t_bits a_t_trade t_in t_fresh t_tradeSought t_bits_r) H := hP
        have hD : va_D A (wd_X9_oddSet cI cZ cR a_t a_t_bits a_t_trade t_in t_fresh t_tradeSought t_bits_r) := hD
        refine lv_if_eq (tgt := 40) hx hb dX9_oddSet_26 (by decide) (fun c7 => ?_) (fun c7 => ?_)
        · have hf := ipos c7 hf
          refine lv_iinc (v := (x1 + (1 : Int32))) (lv' := [(1, .int (x1 + (1 : Int32))), (0, .ref a_t)]) hx hb dX9_oddSet_40 hl (k := 1) rfl rfl (by decide) rfl (fun ls hl => ?_)
          refine lv_goto (tgt := 2) hx hb dX9_oddSet_43 (by decide) ?_
          exact ih (x1 + (1 : Int32)) hf _ _ hP hD hS _ (lv_sub hl [1, 0] rfl)
        · have hf := ineg c7 hf
          refine lv_aload_n hx hb dX9_oddSet_29 rfl (lv_at hl 0 rfl) ?_
          refine lv_iload_n hx hb dX9_oddSet_30 rfl (lv_at hl 1 rfl) ?_
          obtain ⟨r8, hr9, hf⟩ := bnd hf
          refine wcalliA (D := D) (cI := cI) (cZ := cZ) (cR := cR) (wc := (wd_X9_spoiler cI cZ cR a_t a_t_bits a_t_trade t_in t_fresh t_tradeSought t_bits_r)) (w' := (wd_X9_spoiler cI cZ cR a_t a_t_bits a_t_trade t_in t_fresh t_tradeSought t_bits_r)) hP hD hS hA rfl (rnVA (As := [.int x1]) (ci := 8) (q0 := 0) X hK hP hD rfl rfl (c_X9_spoiler l D cI cZ cR hr9) (cwV 1 hts gX9_oddSet_X9_spoiler rfl rfl rfl (by decide +kernel) ⟨Nat.le_of_ble_eq_true rfl, Nat.le_of_ble_eq_true rfl⟩) rfl hl.1 rfl (Nat.le_of_ble_eq_true rfl) dX9_oddSet_31) (fun H locs hP hD hS => ?_)
          have hP : va_P D vwCl (wd_X9_oddSet cI cZ cR a_t a_t_bits a_t_trade t_in t_fresh t_tradeSought t_bits_r) H := hP
          have hD : va_D A (wd_X9_oddSet cI cZ cR a_t a_t_bits a_t_trade t_in t_fresh t_tradeSought t_bits_r) := hD
          refine lv_iconst (v := (-1 : Int32)) hx hb dX9_oddSet_34 (by decide) ?_
          refine lv_icmp_eq (tgt := 40) hx hb dX9_oddSet_35 (by decide) (fun c10 => ?_) (fun c10 => ?_)
          · have hf := ipos c10 hf
            refine lv_iinc (v := (x1 + (1 : Int32))) (lv' := [(1, .int (x1 + (1 : Int32))), (0, .ref a_t)]) hx hb dX9_oddSet_40 hl (k := 1) rfl rfl (by decide) rfl (fun ls hl => ?_)
            refine lv_goto (tgt := 2) hx hb dX9_oddSet_43 (by decide) ?_
            exact ih (x1 + (1 : Int32)) hf _ _ hP hD hS _ (lv_sub hl [1, 0] rfl)
          · have hf := ineg c10 hf
            refine lv_iload_n hx hb dX9_oddSet_38 rfl (lv_at hl 1 rfl) ?_
            cases hf
            exact reti X hK hP hD hS dX9_oddSet_39
set_option maxHeartbeats 4000000 in
set_option maxRecDepth 100000 in
theorem c_X9_oddSet (l : Launch) (D : va_G) (cI cZ cR : ClassId) {a_t a_t_bits a_t_trade : Nat} {t_in : Int32} {t_fresh : Int32} {t_tradeSought : Int32} {t_bits_r : Nat → Int32} {sz : Nat} {out : Int32} (hf : F_X9_oddSet t_in t_bits_r = some out) : CI l yX9_oddSet wsX9_oddSet ({ frames := 3, cells := 0, slots := 0, locals := 65 } : Room) D cI cZ cR [.ref a_t] (wd_X9_oddSet cI cZ cR a_t a_t_bits a_t_trade t_in t_fresh t_tradeSought t_bits_r) sz (out) (wd_X9_oddSet cI cZ cR a_t a_t_bits a_t_trade t_in t_fresh t_tradeSought t_bits_r) := by
  refine met_of (Qf := fun A => qi D cI cZ cR A (out) (wd_X9_oddSet cI cZ cR a_t a_t_bits a_t_trade t_in t_fresh t_tradeSought t_bits_r)) RX9 (by decide +kernel) rfl rfl (Nat.le_of_ble_eq_true rfl) ?_
  intro p e s m below meth c A X hK hA hP hD hS ls hl
  have hl : lv_has ls 2 [(0, .ref a_t)] := hl
  obtain ⟨hx, hb, hml, hr, hown, hts, hlocks, hN⟩ := id X
  unfold F_X9_oddSet at hf
  refine lv_iconst (v := (0 : Int32)) hx hb dX9_oddSet_0 (by decide) ?_
  refine lv_istore_n (lv' := [(1, .int (0 : Int32)), (0, .ref a_t)]) hx hb dX9_oddSet_1 rfl hl (by decide) rfl (fun ls hl => ?_)
  exact w_X9_oddSet_2 X hK hA _ (0 : Int32) hf _ _ hP hD hS _ (lv_sub hl [1, 0] rfl)

abbrev wd_X9_noLess (cI cZ cR : ClassId) (a_t a_t_bits a_t_trade : Nat) (t_in t_fresh t_tradeSought : Int32) (t_bits_r : Nat → Int32) : va_W := [(a_t, oB 8 [.ref a_t_bits, .ref a_t_trade, .int t_in, .int t_fresh, .int t_tradeSought]), (a_t_bits, aI cI 32 t_bits_r)]
set_option maxRecDepth 100000 in
theorem in_X9_noLess_X9 : ∀ w ∈ wsX90, w ∈ wsX9_noLess := by decide +kernel
set_option maxHeartbeats 4000000 in
set_option maxRecDepth 100000 in
theorem w_X9_noLess_20 {p : Program} {l : Launch} {e : Env} {s : State} {m : MethodId} {args : Array Value} {below : List Frame} {meth : Method} {c : Code} {D : va_G} {cI cZ cR : ClassId} {A : Nat → Prop} {a_t a_t_bits a_t_trade : Nat} {t_in : Int32} {t_fresh : Int32} {t_tradeSought : Int32} {t_bits_r : Nat → Int32} {x1 : Int32} {x2 : Int32} {out : Int32} (X : cx p s m args meth c cX9_noLess 5 (some .boolean) RX9 wsX9_noLess) (hK : va_K D vwCl (ty3 cI cZ cR) s) (hA : ∀ q, s.heap.size ≤ q → A q) : ∀ (n : Nat) (x3 : Int32) (x4 : Int32), F_X9_noLess_20 x1 x2 t_in t_bits_r n x3 x4 = some out → ∀ (H : Heap) (locs : List Loc), va_P D vwCl (wd_X9_noLess cI cZ cR a_t a_t_bits a_t_trade t_in t_fresh t_tradeSought t_bits_r) H → va_D A (wd_X9_noLess cI cZ cR a_t a_t_bits a_t_trade t_in t_fresh t_tradeSought t_bits_r) → va_S A s.heap H locs → ∀ (ls : Array Slot), lv_has ls 5 [(0, .ref a_t), (1, .int x1), (2, .int x2), (3, .int x3), (4, .int x4)] → W p l e (headSpec wsX9_noLess ({ frames := 2, cells := 0, slots := 0, locals := 42 } : Room)).room s m args below meth c H locs 0 0 (MQ below (qi D cI cZ cR A (out) (wd_X9_noLess cI cZ cR a_t a_t_bits a_t_trade t_in t_fresh t_tradeSought t_bits_r)) args s 0 0 A) (F0 m 20 ls []) := by
  obtain ⟨hx, hb, hml, hr, hown, hts, hlocks, hN⟩ := id X
  intro n
  induction n with
  | zero =>
    intro x3 x4 hf
    cases (show (none : Option (Int32)) = some out from hf)
  | succ n ih =>
    intro x3 x4 hf H locs hP hD hS ls hl
    rw [F_X9_noLess_20] at hf
    refine lv_iload hx hb dX9_noLess_20 (lv_at hl 4 rfl) ?_
    refine lv_iload_n hx hb dX9_noLess_22 rfl (lv_at hl 3 rfl) ?_
    refine lv_icmp_gt (tgt := 69) hx hb dX9_noLess_23 (by decide) (fun c1 => ?_) (fun c1 => ?_)
    · have hf := ipos c1 hf
      refine lv_iconst (v := (1 : Int32)) hx hb dX9_noLess_69 (by decide) ?_
      cases hf
      exact retz (Or.inr rfl) X hK hP hD hS dX9_noLess_70
    · have hf := ineg c1 hf
      refine lv_iload hx hb dX9_noLess_26 (lv_at hl 4 rfl) ?_
      refine lv_iload_n hx hb dX9_noLess_28 rfl (lv_at hl 3 rfl) ?_
      obtain ⟨r2, hr3, hf⟩ := bnd hf
      refine wcalli (D := D) (cI := cI) (cZ := cZ) (cR := cR) (wc := (wd_X11_isWithin cI cZ cR)) (w' := (wd_X11_isWithin cI cZ cR)) [] hP hD hS hA rfl rfl rfl (rnSN (As := [.int x4, .int x3]) X [] hK hP hD rfl rfl (c_X11_isWithin l D cI cZ cR hr3) ⟨va_cnB (host := "DivisionHall") 2 hts ggX9_noLess_X11_isWithin rfl rfl rfl (hN.2.1 ("DivisionHall$Table", 39, yX11_isWithin, "DivisionHall") (by decide +kernel)) (hts (.initialized RX11) (by decide +kernel)) (by decide +kernel) ⟨Nat.le_of_ble_eq_true rfl, Nat.le_of_ble_eq_true rfl⟩, hts (.static yX11_isWithin) (by decide +kernel), trivial⟩ rfl hl.1 rfl (Nat.le_of_ble_eq_true rfl) dX9_noLess_29) (fun H locs hP hD hS => ?_)
      have hP : va_P D vwCl (wd_X9_noLess cI cZ cR a_t a_t_bits a_t_trade t_in t_fresh t_tradeSought t_bits_r) H := hP
      have hD : va_D A (wd_X9_noLess cI cZ cR a_t a_t_bits a_t_trade t_in t_fresh t_tradeSought t_bits_r) := hD
      refine lv_if_eq (tgt := 63) hx hb dX9_noLess_32 (by decide) (fun c4 => ?_) (fun c4 => ?_)
      · have hf := ipos c4 hf
        refine lv_iinc (v := (x4 + (1 : Int32))) (lv' := [(4, .int (x4 + (1 : Int32))), (0, .ref a_t), (1, .int x1), (2, .int x2), (3, .int x3)]) hx hb dX9_noLess_63 hl (k := 4) rfl rfl (by decide) rfl (fun ls hl => ?_)
        refine lv_goto (tgt := 20) hx hb dX9_noLess_66 (by decide) ?_
        exact ih x3 (x4 + (1 : Int32)) hf _ _ hP hD hS _ (lv_sub hl [1, 2, 3, 4, 0] rfl)
      · have hf := ineg c4 hf
        refine lv_aload_n hx hb dX9_noLess_35 rfl (lv_at hl 0 rfl) ?_
        refine lv_iload hx hb dX9_noLess_36 (lv_at hl 4 rfl) ?_
        refine lv_iconst (v := (1 : Int32)) hx hb dX9_noLess_38 (by decide) ?_
        refine lv_iload_n hx hb dX9_noLess_39 rfl (lv_at hl 2 rfl) ?_
        refine lv_ishl hx hb dX9_noLess_40 ?_
        refine lv_ior hx hb dX9_noLess_41 ?_
        obtain ⟨r5, hr6, hf⟩ := bnd hf
        refine wcalliA (D := D) (cI := cI) (cZ := cZ) (cR := cR) (wc := (wd_X9_at cI cZ cR a_t a_t_bits a_t_trade t_in t_fresh t_tradeSought t_bits_r)) (w' := (wd_X9_at cI cZ cR a_t a_t_bits a_t_trade t_in t_fresh t_tradeSought t_bits_r)) hP hD hS hA rfl (rnVA (As := [.int (x4 ||| ((1 : Int32) <<< (x2 &&& 31)))]) (ci := 8) (q0 := 0) X hK hP hD rfl rfl (c_X9_at l D cI cZ cR hr6) (cwV 1 hts gX9_noLess_X9_at rfl rfl rfl (by decide +kernel) ⟨Nat.le_of_ble_eq_true rfl, Nat.le_of_ble_eq_true rfl⟩) rfl hl.1 rfl (Nat.le_of_ble_eq_true rfl) dX9_noLess_42) (fun H locs hP hD hS => ?_)
        have hP : va_P D vwCl (wd_X9_noLess cI cZ cR a_t a_t_bits a_t_trade t_in t_fresh t_tradeSought t_bits_r) H := hP
        have hD : va_D A (wd_X9_noLess cI cZ cR a_t a_t_bits a_t_trade t_in t_fresh t_tradeSought t_bits_r) := hD
        refine lv_if_eq (tgt := 63) hx hb dX9_noLess_45 (by decide) (fun c7 => ?_) (fun c7 => ?_)
        · have hf := ipos c7 hf
          refine lv_iinc (v := (x4 + (1 : Int32))) (lv' := [(4, .int (x4 + (1 : Int32))), (0, .ref a_t), (1, .int x1), (2, .int x2), (3, .int x3)]) hx hb dX9_noLess_63 hl (k := 4) rfl rfl (by decide) rfl (fun ls hl => ?_)
          refine lv_goto (tgt := 20) hx hb dX9_noLess_66 (by decide) ?_
          exact ih x3 (x4 + (1 : Int32)) hf _ _ hP hD hS _ (lv_sub hl [1, 2, 3, 4, 0] rfl)
        · have hf := ineg c7 hf
          refine lv_aload_n hx hb dX9_noLess_48 rfl (lv_at hl 0 rfl) ?_
          refine lv_iload hx hb dX9_noLess_49 (lv_at hl 4 rfl) ?_
          refine lv_iconst (v := (1 : Int32)) hx hb dX9_noLess_51 (by decide) ?_
          refine lv_iload_n hx hb dX9_noLess_52 rfl (lv_at hl 1 rfl) ?_
          refine lv_ishl hx hb dX9_noLess_53 ?_
          refine lv_ior hx hb dX9_noLess_54 ?_
          obtain ⟨r8, hr9, hf⟩ := bnd hf
          refine wcalliA (D := D) (cI := cI) (cZ := cZ) (cR := cR) (wc := (wd_X9_at cI cZ cR a_t a_t_bits a_t_trade t_in t_fresh t_tradeSought t_bits_r)) (w' := (wd_X9_at cI cZ cR a_t a_t_bits a_t_trade t_in t_fresh t_tradeSought t_bits_r)) hP hD hS hA rfl (rnVA (As := [.int (x4 ||| ((1 : Int32) <<< (x1 &&& 31)))]) (ci := 8) (q0 := 0) X hK hP hD rfl rfl (c_X9_at l D cI cZ cR hr9) (cwV 1 hts gX9_noLess_X9_at rfl rfl rfl (by decide +kernel) ⟨Nat.le_of_ble_eq_true rfl, Nat.le_of_ble_eq_true rfl⟩) rfl hl.1 rfl (Nat.le_of_ble_eq_true rfl) dX9_noLess_55) (fun H locs hP hD hS => ?_)
          have hP : va_P D vwCl (wd_X9_noLess cI cZ cR a_t a_t_bits a_t_trade t_in t_fresh t_tradeSought t_bits_r) H := hP
          have hD : va_D A (wd_X9_noLess cI cZ cR a_t a_t_bits a_t_trade t_in t_fresh t_tradeSought t_bits_r) := hD
          refine lv_if_ne (tgt := 63) hx hb dX9_noLess_58 (by decide) (fun c10 => ?_) (fun c10 => ?_)
          · have hf := ineg c10 hf
            refine lv_iinc (v := (x4 + (1 : Int32))) (lv' := [(4, .int (x4 + (1 : Int32))), (0, .ref a_t), (1, .int x1), (2, .int x2), (3, .int x3)]) hx hb dX9_noLess_63 hl (k := 4) rfl rfl (by decide) rfl (fun ls hl => ?_)
            refine lv_goto (tgt := 20) hx hb dX9_noLess_66 (by decide) ?_
            exact ih x3 (x4 + (1 : Int32)) hf _ _ hP hD hS _ (lv_sub hl [1, 2, 3, 4, 0] rfl)
          · have hf := ipos c10 hf
            refine lv_iconst (v := (0 : Int32)) hx hb dX9_noLess_61 (by decide) ?_
            cases hf
            exact retz (Or.inl rfl) X hK hP hD hS dX9_noLess_62
set_option maxHeartbeats 4000000 in
set_option maxRecDepth 100000 in
theorem c_X9_noLess (l : Launch) (D : va_G) (cI cZ cR : ClassId) {a_t a_t_bits a_t_trade : Nat} {t_in : Int32} {t_fresh : Int32} {t_tradeSought : Int32} {t_bits_r : Nat → Int32} {x1 : Int32} {x2 : Int32} {sz : Nat} {out : Int32} (hf : F_X9_noLess x1 x2 t_in t_bits_r = some out) : CI l yX9_noLess wsX9_noLess ({ frames := 2, cells := 0, slots := 0, locals := 42 } : Room) D cI cZ cR [.ref a_t, .int x1, .int x2] (wd_X9_noLess cI cZ cR a_t a_t_bits a_t_trade t_in t_fresh t_tradeSought t_bits_r) sz (out) (wd_X9_noLess cI cZ cR a_t a_t_bits a_t_trade t_in t_fresh t_tradeSought t_bits_r) := by
  refine met_of (Qf := fun A => qi D cI cZ cR A (out) (wd_X9_noLess cI cZ cR a_t a_t_bits a_t_trade t_in t_fresh t_tradeSought t_bits_r)) RX9 (by decide +kernel) rfl rfl (Nat.le_of_ble_eq_true rfl) ?_
  intro p e s m below meth c A X hK hA hP hD hS ls hl
  have hl : lv_has ls 5 [(0, .ref a_t), (1, .int x1), (2, .int x2)] := hl
  obtain ⟨hx, hb, hml, hr, hown, hts, hlocks, hN⟩ := id X
  unfold F_X9_noLess at hf
  refine lv_aload_n hx hb dX9_noLess_0 rfl (lv_at hl 0 rfl) ?_
  refine va_get (D := D) (ci := 8) (v := .int t_in) (C := RX9) (T := TX9) (N := 5) hx hb hts in_X9_noLess_X9 hown hK hP 0 rfl rfl 2 (by decide) (hts (.fieldLink RX9 24 "DivisionHall$Table" "in" "I") (by decide +kernel)) (fun _ h9 => h9) rfl dX9_noLess_1 ?_
  refine lv_iconst (v := (1 : Int32)) hx hb dX9_noLess_4 (by decide) ?_
  refine lv_iload_n hx hb dX9_noLess_5 rfl (lv_at hl 1 rfl) ?_
  refine lv_ishl hx hb dX9_noLess_6 ?_
  refine lv_iconst (v := (-1 : Int32)) hx hb dX9_noLess_7 (by decide) ?_
  refine lv_ixor hx hb dX9_noLess_8 ?_
  refine lv_iand hx hb dX9_noLess_9 ?_
  refine lv_iconst (v := (1 : Int32)) hx hb dX9_noLess_10 (by decide) ?_
  refine lv_iload_n hx hb dX9_noLess_11 rfl (lv_at hl 2 rfl) ?_
  refine lv_ishl hx hb dX9_noLess_12 ?_
  refine lv_iconst (v := (-1 : Int32)) hx hb dX9_noLess_13 (by decide) ?_
  refine lv_ixor hx hb dX9_noLess_14 ?_
  refine lv_iand hx hb dX9_noLess_15 ?_
  refine lv_istore_n (lv' := [(3, .int ((t_in &&& (((1 : Int32) <<< (x1 &&& 31)) ^^^ (-1 : Int32))) &&& (((1 : Int32) <<< (x2 &&& 31)) ^^^ (-1 : Int32)))), (0, .ref a_t), (1, .int x1), (2, .int x2)]) hx hb dX9_noLess_16 rfl hl (by decide) rfl (fun ls hl => ?_)
  refine lv_iconst (v := (0 : Int32)) hx hb dX9_noLess_17 (by decide) ?_
  refine lv_istore (lv' := [(4, .int (0 : Int32)), (3, .int ((t_in &&& (((1 : Int32) <<< (x1 &&& 31)) ^^^ (-1 : Int32))) &&& (((1 : Int32) <<< (x2 &&& 31)) ^^^ (-1 : Int32)))), (0, .ref a_t), (1, .int x1), (2, .int x2)]) hx hb dX9_noLess_18 hl (by decide) rfl (fun ls hl => ?_)
  exact w_X9_noLess_20 X hK hA _ ((t_in &&& (((1 : Int32) <<< (x1 &&& 31)) ^^^ (-1 : Int32))) &&& (((1 : Int32) <<< (x2 &&& 31)) ^^^ (-1 : Int32))) (0 : Int32) hf _ _ hP hD hS _ (lv_sub hl [2, 3, 4, 1, 0] rfl)
