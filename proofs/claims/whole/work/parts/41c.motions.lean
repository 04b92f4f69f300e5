abbrev wd_X4_firstOrder (cI cZ cR : ClassId) (a_t a_t_first a_t_rank a_t_told a_t_beaten a_t_leads a_t_order : Nat) (t_count : Int32) (t_order_r : Nat → Int32) : va_W := [(a_t, oB 4 [.ref a_t_first, .ref a_t_rank, .ref a_t_told, .ref a_t_beaten, .ref a_t_leads, .ref a_t_order, .int t_count]), (a_t_order, aI cI 6 t_order_r)]
set_option maxRecDepth 100000 in
theorem in_X4_firstOrder_X4 : ∀ w ∈ wsX40, w ∈ wsX4_firstOrder := by decide +kernel
set_option maxHeartbeats 4000000 in
set_option maxRecDepth 100000 in
theorem w_X4_firstOrder_7 {p : Program} {l : Launch} {e : Env} {s : State} {m : MethodId} {args : Array Value} {below : List Frame} {meth : Method} {c : Code} {D : va_G} {cI cZ cR : ClassId} {A : Nat → Prop} {a_t a_t_first a_t_rank a_t_told a_t_beaten a_t_leads a_t_order : Nat} {x1 : Int32} {out : Int32 × Int32 × (Nat → Int32)} (X : cx p s m args meth c cX4_firstOrder 3 (some .boolean) RX4 wsX4_firstOrder) (hK : va_K D vwCl (ty3 cI cZ cR) s) (hA : ∀ q, s.heap.size ≤ q → A q) : ∀ (n : Nat) (x2 : Int32) (t_count : Int32) (t_order_r : Nat → Int32), F_X4_firstOrder_7 x1 n x2 t_count t_order_r = some out → ∀ (H : Heap) (locs : List Loc), va_P D vwCl (wd_X4_firstOrder cI cZ cR a_t a_t_first a_t_rank a_t_told a_t_beaten a_t_leads a_t_order t_count t_order_r) H → va_D A (wd_X4_firstOrder cI cZ cR a_t a_t_first a_t_rank a_t_told a_t_beaten a_t_leads a_t_order t_count t_order_r) → va_S A s.heap H locs → ∀ (ls : Array Slot), lv_has ls 3 [(0, .ref a_t), (1, .int x1), (2, .int x2)] → W p l e (headSpec wsX4_firstOrder ({ frames := 1, cells := 0, slots := 0, locals := 21 } : Room)).room s m args below meth c H locs 0 0 (MQ below (qi D cI cZ cR A (out.1) (wd_X4_firstOrder cI cZ cR a_t a_t_first a_t_rank a_t_told a_t_beaten a_t_leads a_t_order (out.2.1) (out.2.2))) args s 0 0 A) (F0 m 7 ls []) := by
  obtain ⟨hx, hb, hml, hr, hown, hts, hlocks, hN⟩ := id X
  intro n
  induction n with
  | zero =>
    intro x2 t_count t_order_r hf
    cases (show (none : Option (Int32 × Int32 × (Nat → Int32))) = some out from hf)
  | succ n ih =>
    intro x2 t_count t_order_r hf H locs hP hD hS ls hl
    rw [F_X4_firstOrder_7] at hf
    refine lv_iload_n hx hb dX4_firstOrder_7 rfl (lv_at hl 2 rfl) ?_
    refine lv_bipush (v := (6 : Int32)) hx hb dX4_firstOrder_8 (by decide) ?_
    refine lv_icmp_ge (tgt := 59) hx hb dX4_firstOrder_10 (by decide) (fun c1 => ?_) (fun c1 => ?_)
    · have hf := ipos c1 hf
      refine lv_aload_n hx hb dX4_firstOrder_59 rfl (lv_at hl 0 rfl) ?_
      refine va_get (D := D) (ci := 4) (v := .int t_count) (C := RX4) (T := TX4) (N := 7) hx hb hts in_X4_firstOrder_X4 hown hK hP 0 rfl rfl 6 (by decide) (hts (.fieldLink RX4 65 "DivisionHall$Motions" "count" "I") (by decide +kernel)) (fun _ h9 => h9) rfl dX4_firstOrder_60 ?_
      refine lv_if_le (tgt := 70) hx hb dX4_firstOrder_63 (by decide) (fun c2 => ?_) (fun c2 => ?_)
      · have hf := ipos c2 hf
        refine lv_iconst (v := (0 : Int32)) hx hb dX4_firstOrder_70 (by decide) ?_
        cases hf
        exact retz (Or.inl rfl) X hK hP hD hS dX4_firstOrder_71
      · have hf := ineg c2 hf
        refine lv_iconst (v := (1 : Int32)) hx hb dX4_firstOrder_66 (by decide) ?_
        refine lv_goto (tgt := 71) hx hb dX4_firstOrder_67 (by decide) ?_
        cases hf
        exact retz (Or.inr rfl) X hK hP hD hS dX4_firstOrder_71
    · have hf := ineg c1 hf
      refine lv_iload_n hx hb dX4_firstOrder_13 rfl (lv_at hl 1 rfl) ?_
      refine lv_iload_n hx hb dX4_firstOrder_14 rfl (lv_at hl 2 rfl) ?_
      obtain ⟨r3, hr4, hf⟩ := bnd hf
      refine wcalli (D := D) (cI := cI) (cZ := cZ) (cR := cR) (wc := (wd_X11_has cI cZ cR)) (w' := (wd_X11_has cI cZ cR)) [] hP hD hS hA rfl rfl rfl (rnSN (As := [.int x1, .int x2]) X [] hK hP hD rfl rfl (c_X11_has l D cI cZ cR hr4) ⟨va_cnB (host := "DivisionHall") 2 hts ggX4_firstOrder_X11_has rfl rfl rfl (hN.2.1 ("DivisionHall$Motions", 40, yX11_has, "DivisionHall") (by decide +kernel)) (hts (.initialized RX11) (by decide +kernel)) (by decide +kernel) ⟨Nat.le_of_ble_eq_true rfl, Nat.le_of_ble_eq_true rfl⟩, hts (.static yX11_has) (by decide +kernel), trivial⟩ rfl hl.1 rfl (Nat.le_of_ble_eq_true rfl) dX4_firstOrder_15) (fun H locs hP hD hS => ?_)
      have hP : va_P D vwCl (wd_X4_firstOrder cI cZ cR a_t a_t_first a_t_rank a_t_told a_t_beaten a_t_leads a_t_order t_count t_order_r) H := hP
      have hD : va_D A (wd_X4_firstOrder cI cZ cR a_t a_t_first a_t_rank a_t_told a_t_beaten a_t_leads a_t_order t_count t_order_r) := hD
      refine lv_if_eq (tgt := 53) hx hb dX4_firstOrder_18 (by decide) (fun c5 => ?_) (fun c5 => ?_)
      · have hf := ipos c5 hf
        refine lv_iinc (v := (x2 + (1 : Int32))) (lv' := [(2, .int (x2 + (1 : Int32))), (0, .ref a_t), (1, .int x1)]) hx hb dX4_firstOrder_53 hl (k := 2) rfl rfl (by decide) rfl (fun ls hl => ?_)
        refine lv_goto (tgt := 7) hx hb dX4_firstOrder_56 (by decide) ?_
        exact ih (x2 + (1 : Int32)) t_count t_order_r hf _ _ hP hD hS _ (lv_sub hl [1, 2, 0] rfl)
      · have hf := ineg c5 hf
        refine lv_aload_n hx hb dX4_firstOrder_21 rfl (lv_at hl 0 rfl) ?_
        refine va_get (D := D) (ci := 4) (v := .int t_count) (C := RX4) (T := TX4) (N := 7) hx hb hts in_X4_firstOrder_X4 hown hK hP 0 rfl rfl 6 (by decide) (hts (.fieldLink RX4 65 "DivisionHall$Motions" "count" "I") (by decide +kernel)) (fun _ h9 => h9) rfl dX4_firstOrder_22 ?_
        refine lv_bipush (v := (6 : Int32)) hx hb dX4_firstOrder_25 (by decide) ?_
        obtain ⟨r6, hr7, hf⟩ := bnd hf
        refine wcalli (D := D) (cI := cI) (cZ := cZ) (cR := cR) (wc := (wd_X11_inside cI cZ cR)) (w' := (wd_X11_inside cI cZ cR)) [] hP hD hS hA rfl rfl rfl (rnSN (As := [.int t_count, .int (6 : Int32)]) X [] hK hP hD rfl rfl (c_X11_inside l D cI cZ cR hr7) ⟨va_cnB (host := "DivisionHall") 2 hts ggX4_firstOrder_X11_inside rfl rfl rfl (hN.2.1 ("DivisionHall$Motions", 36, yX11_inside, "DivisionHall") (by decide +kernel)) (hts (.initialized RX11) (by decide +kernel)) (by decide +kernel) ⟨Nat.le_of_ble_eq_true rfl, Nat.le_of_ble_eq_true rfl⟩, hts (.static yX11_inside) (by decide +kernel), trivial⟩ rfl hl.1 rfl (Nat.le_of_ble_eq_true rfl) dX4_firstOrder_27) (fun H locs hP hD hS => ?_)
        have hP : va_P D vwCl (wd_X4_firstOrder cI cZ cR a_t a_t_first a_t_rank a_t_told a_t_beaten a_t_leads a_t_order t_count t_order_r) H := hP
        have hD : va_D A (wd_X4_firstOrder cI cZ cR a_t a_t_first a_t_rank a_t_told a_t_beaten a_t_leads a_t_order t_count t_order_r) := hD
        refine lv_if_eq (tgt := 53) hx hb dX4_firstOrder_30 (by decide) (fun c8 => ?_) (fun c8 => ?_)
        · have hf := ipos c8 hf
          refine lv_iinc (v := (x2 + (1 : Int32))) (lv' := [(2, .int (x2 + (1 : Int32))), (0, .ref a_t), (1, .int x1)]) hx hb dX4_firstOrder_53 hl (k := 2) rfl rfl (by decide) rfl (fun ls hl => ?_)
          refine lv_goto (tgt := 7) hx hb dX4_firstOrder_56 (by decide) ?_
          exact ih (x2 + (1 : Int32)) t_count t_order_r hf _ _ hP hD hS _ (lv_sub hl [1, 2, 0] rfl)
        · have hf := ineg c8 hf
          refine lv_aload_n hx hb dX4_firstOrder_33 rfl (lv_at hl 0 rfl) ?_
          refine va_get (D := D) (ci := 4) (v := .ref a_t_order) (C := RX4) (T := TX4) (N := 7) hx hb hts in_X4_firstOrder_X4 hown hK hP 0 rfl rfl 5 (by decide) (hts (.fieldLink RX4 27 "DivisionHall$Motions" "order" "[I") (by decide +kernel)) (fun _ h9 => h9) rfl dX4_firstOrder_34 ?_
          refine lv_aload_n hx hb dX4_firstOrder_37 rfl (lv_at hl 0 rfl) ?_
          refine va_get (D := D) (ci := 4) (v := .int t_count) (C := RX4) (T := TX4) (N := 7) hx hb hts in_X4_firstOrder_X4 hown hK hP 0 rfl rfl 6 (by decide) (hts (.fieldLink RX4 65 "DivisionHall$Motions" "count" "I") (by decide +kernel)) (fun _ h9 => h9) rfl dX4_firstOrder_38 ?_
          refine lv_iload_n hx hb dX4_firstOrder_41 rfl (lv_at hl 2 rfl) ?_
          obtain ⟨hi9, hf⟩ := gin_s hf
          refine va_iast hx hb hK hP hD hS 1 0 rfl rfl hi9 dX4_firstOrder_42 (fun H locs hP hD hS => ?_)
          have hP : va_P D vwCl (wd_X4_firstOrder cI cZ cR a_t a_t_first a_t_rank a_t_told a_t_beaten a_t_leads a_t_order t_count (upd t_order_r (t_count).toNatClampNeg x2)) H := hP
          have hD : va_D A (wd_X4_firstOrder cI cZ cR a_t a_t_first a_t_rank a_t_told a_t_beaten a_t_leads a_t_order t_count (upd t_order_r (t_count).toNatClampNeg x2)) := hD
          refine lv_aload_n hx hb dX4_firstOrder_43 rfl (lv_at hl 0 rfl) ?_
          refine lv_dup hx hb dX4_firstOrder_44 rfl ?_
          refine va_get (D := D) (ci := 4) (v := .int t_count) (C := RX4) (T := TX4) (N := 7) hx hb hts in_X4_firstOrder_X4 hown hK hP 0 rfl rfl 6 (by decide) (hts (.fieldLink RX4 65 "DivisionHall$Motions" "count" "I") (by decide +kernel)) (fun _ h9 => h9) rfl dX4_firstOrder_45 ?_
          refine lv_iconst (v := (1 : Int32)) hx hb dX4_firstOrder_48 (by decide) ?_
          refine lv_iadd hx hb dX4_firstOrder_49 ?_
          refine va_put (D := D) (ci := 4) (v := .int (t_count + (1 : Int32))) (ty := .int) (C := RX4) (T := TX4) (N := 7) hx hb hts in_X4_firstOrder_X4 tyX4 tyX4_ok nmX4 hown hK hP hD hS 0 rfl rfl 6 (by decide) (hts (.fieldLink RX4 65 "DivisionHall$Motions" "count" "I") (by decide +kernel)) (fun _ h9 => h9) rfl (by decide +kernel) rfl rfl (Nat.le_of_ble_eq_true rfl) dX4_firstOrder_50 (fun H locs hP hD hS => ?_)
          have hP : va_P D vwCl (wd_X4_firstOrder cI cZ cR a_t a_t_first a_t_rank a_t_told a_t_beaten a_t_leads a_t_order (t_count + (1 : Int32)) (upd t_order_r (t_count).toNatClampNeg x2)) H := hP
          have hD : va_D A (wd_X4_firstOrder cI cZ cR a_t a_t_first a_t_rank a_t_told a_t_beaten a_t_leads a_t_order (t_count + (1 : Int32)) (upd t_order_r (t_count).toNatClampNeg x2)) := hD
          refine lv_iinc (v := (x2 + (1 : Int32))) (lv' := [(2, .int (x2 + (1 : Int32))), (0, .ref a_t), (1, .int x1)]) hx hb dX4_firstOrder_53 hl (k := 2) rfl rfl (by decide) rfl (fun ls hl => ?_)
          refine lv_goto (tgt := 7) hx hb dX4_firstOrder_56 (by decide) ?_
          exact ih (x2 + (1 : Int32)) (t_count + (1 : Int32)) (upd t_order_r (t_count).toNatClampNeg x2) hf _ _ hP hD hS _ (lv_sub hl [1, 2, 0] rfl)
set_option maxHeartbeats 4000000 in
set_option maxRecDepth 100000 in
theorem c_X4_firstOrder (l : Launch) (D : va_G) (cI cZ cR : ClassId) {a_t a_t_first a_t_rank a_t_told a_t_beaten a_t_leads a_t_order : Nat} {t_count : Int32} {t_order_r : Nat → Int32} {x1 : Int32} {sz : Nat} {out : Int32 × Int32 × (Nat → Int32)} (hf : F_X4_firstOrder x1 t_count t_order_r = some out) : CI l yX4_firstOrder wsX4_firstOrder ({ frames := 1, cells := 0, slots := 0, locals := 21 } : Room) D cI cZ cR [.ref a_t, .int x1] (wd_X4_firstOrder cI cZ cR a_t a_t_first a_t_rank a_t_told a_t_beaten a_t_leads a_t_order t_count t_order_r) sz (out.1) (wd_X4_firstOrder cI cZ cR a_t a_t_first a_t_rank a_t_told a_t_beaten a_t_leads a_t_order (out.2.1) (out.2.2)) := by
  refine met_of (Qf := fun A => qi D cI cZ cR A (out.1) (wd_X4_firstOrder cI cZ cR a_t a_t_first a_t_rank a_t_told a_t_beaten a_t_leads a_t_order (out.2.1) (out.2.2))) RX4 (by decide +kernel) rfl rfl (Nat.le_of_ble_eq_true rfl) ?_
  intro p e s m below meth c A X hK hA hP hD hS ls hl
  have hl : lv_has ls 3 [(0, .ref a_t), (1, .int x1)] := hl
  obtain ⟨hx, hb, hml, hr, hown, hts, hlocks, hN⟩ := id X
  unfold F_X4_firstOrder at hf
  refine lv_aload_n hx hb dX4_firstOrder_0 rfl (lv_at hl 0 rfl) ?_
  refine lv_iconst (v := (0 : Int32)) hx hb dX4_firstOrder_1 (by decide) ?_
  refine va_put (D := D) (ci := 4) (v := .int (0 : Int32)) (ty := .int) (C := RX4) (T := TX4) (N := 7) hx hb hts in_X4_firstOrder_X4 tyX4 tyX4_ok nmX4 hown hK hP hD hS 0 rfl rfl 6 (by decide) (hts (.fieldLink RX4 65 "DivisionHall$Motions" "count" "I") (by decide +kernel)) (fun _ h9 => h9) rfl (by decide +kernel) rfl rfl (Nat.le_of_ble_eq_true rfl) dX4_firstOrder_2 (fun H locs hP hD hS => ?_)
  have hP : va_P D vwCl (wd_X4_firstOrder cI cZ cR a_t a_t_first a_t_rank a_t_told a_t_beaten a_t_leads a_t_order (0 : Int32) t_order_r) H := hP
  have hD : va_D A (wd_X4_firstOrder cI cZ cR a_t a_t_first a_t_rank a_t_told a_t_beaten a_t_leads a_t_order (0 : Int32) t_order_r) := hD
  refine lv_iconst (v := (0 : Int32)) hx hb dX4_firstOrder_5 (by decide) ?_
  refine lv_istore_n (lv' := [(2, .int (0 : Int32)), (0, .ref a_t), (1, .int x1)]) hx hb dX4_firstOrder_6 rfl hl (by decide) rfl (fun ls hl => ?_)
  exact w_X4_firstOrder_7 X hK hA _ (0 : Int32) (0 : Int32) t_order_r hf _ _ hP hD hS _ (lv_sub hl [1, 2, 0] rfl)

abbrev wd_X4_swap (cI cZ cR : ClassId) (a_t a_t_first a_t_rank a_t_told a_t_beaten a_t_leads a_t_order : Nat) (t_count : Int32) (t_order_r : Nat → Int32) : va_W := [(a_t, oB 4 [.ref a_t_first, .ref a_t_rank, .ref a_t_told, .ref a_t_beaten, .ref a_t_leads, .ref a_t_order, .int t_count]), (a_t_order, aI cI 6 t_order_r)]
set_option maxRecDepth 100000 in
theorem in_X4_swap_X4 : ∀ w ∈ wsX40, w ∈ wsX4_swap := by decide +kernel
set_option maxHeartbeats 4000000 in
set_option maxRecDepth 100000 in
theorem c_X4_swap (l : Launch) (D : va_G) (cI cZ cR : ClassId) {a_t a_t_first a_t_rank a_t_told a_t_beaten a_t_leads a_t_order : Nat} {t_count : Int32} {t_order_r : Nat → Int32} {x1 : Int32} {x2 : Int32} {sz : Nat} {out : (Nat → Int32)} (hf : F_X4_swap x1 x2 t_order_r = some out) : CV l yX4_swap wsX4_swap ({ frames := 1, cells := 0, slots := 0, locals := 21 } : Room) D cI cZ cR [.ref a_t, .int x1, .int x2] (wd_X4_swap cI cZ cR a_t a_t_first a_t_rank a_t_told a_t_beaten a_t_leads a_t_order t_count t_order_r) sz (wd_X4_swap cI cZ cR a_t a_t_first a_t_rank a_t_told a_t_beaten a_t_leads a_t_order t_count out) := by
  refine met_of (Qf := fun A => qv D cI cZ cR A (wd_X4_swap cI cZ cR a_t a_t_first a_t_rank a_t_told a_t_beaten a_t_leads a_t_order t_count out)) RX4 (by decide +kernel) rfl rfl (Nat.le_of_ble_eq_true rfl) ?_
  intro p e s m below meth c A X hK hA hP hD hS ls hl
  have hl : lv_has ls 4 [(0, .ref a_t), (1, .int x1), (2, .int x2)] := hl
  obtain ⟨hx, hb, hml, hr, hown, hts, hlocks, hN⟩ := id X
  unfold F_X4_swap at hf
  refine lv_iload_n hx hb dX4_swap_0 rfl (lv_at hl 1 rfl) ?_
  refine lv_bipush (v := (6 : Int32)) hx hb dX4_swap_1 (by decide) ?_
  obtain ⟨r1, hr2, hf⟩ := bnd hf
  refine wcalli (D := D) (cI := cI) (cZ := cZ) (cR := cR) (wc := (wd_X11_inside cI cZ cR)) (w' := (wd_X11_inside cI cZ cR)) [] hP hD hS hA rfl rfl rfl (rnSN (As := [.int x1, .int (6 : Int32)]) X [] hK hP hD rfl rfl (c_X11_inside l D cI cZ cR hr2) ⟨va_cnB (host := "DivisionHall") 2 hts ggX4_swap_X11_inside rfl rfl rfl (hN.2.1 ("DivisionHall$Motions", 36, yX11_inside, "DivisionHall") (by decide +kernel)) (hts (.initialized RX11) (by decide +kernel)) (by decide +kernel) ⟨Nat.le_of_ble_eq_true rfl, Nat.le_of_ble_eq_true rfl⟩, hts (.static yX11_inside) (by decide +kernel), trivial⟩ rfl hl.1 rfl (Nat.le_of_ble_eq_true rfl) dX4_swap_3) (fun H locs hP hD hS => ?_)
  have hP : va_P D vwCl (wd_X4_swap cI cZ cR a_t a_t_first a_t_rank a_t_told a_t_beaten a_t_leads a_t_order t_count t_order_r) H := hP
  have hD : va_D A (wd_X4_swap cI cZ cR a_t a_t_first a_t_rank a_t_told a_t_beaten a_t_leads a_t_order t_count t_order_r) := hD
  refine lv_if_eq (tgt := 44) hx hb dX4_swap_6 (by decide) (fun c3 => ?_) (fun c3 => ?_)
  · have hf := ipos c3 hf
    cases hf
    exact retv X hK hP hD hS dX4_swap_44
  · have hf := ineg c3 hf
    refine lv_iload_n hx hb dX4_swap_9 rfl (lv_at hl 2 rfl) ?_
    refine lv_bipush (v := (6 : Int32)) hx hb dX4_swap_10 (by decide) ?_
    obtain ⟨r4, hr5, hf⟩ := bnd hf
    refine wcalli (D := D) (cI := cI) (cZ := cZ) (cR := cR) (wc := (wd_X11_inside cI cZ cR)) (w' := (wd_X11_inside cI cZ cR)) [] hP hD hS hA rfl rfl rfl (rnSN (As := [.int x2, .int (6 : Int32)]) X [] hK hP hD rfl rfl (c_X11_inside l D cI cZ cR hr5) ⟨va_cnB (host := "DivisionHall") 2 hts ggX4_swap_X11_inside rfl rfl rfl (hN.2.1 ("DivisionHall$Motions", 36, yX11_inside, "DivisionHall") (by decide +kernel)) (hts (.initialized RX11) (by decide +kernel)) (by decide +kernel) ⟨Nat.le_of_ble_eq_true rfl, Nat.le_of_ble_eq_true rfl⟩, hts (.static yX11_inside) (by decide +kernel), trivial⟩ rfl hl.1 rfl (Nat.le_of_ble_eq_true rfl) dX4_swap_12) (fun H locs hP hD hS => ?_)
    have hP : va_P D vwCl (wd_X4_swap cI cZ cR a_t a_t_first a_t_rank a_t_told a_t_beaten a_t_leads a_t_order t_count t_order_r) H := hP
    have hD : va_D A (wd_X4_swap cI cZ cR a_t a_t_first a_t_rank a_t_told a_t_beaten a_t_leads a_t_order t_count t_order_r) := hD
    refine lv_if_eq (tgt := 44) hx hb dX4_swap_15 (by decide) (fun c6 => ?_) (fun c6 => ?_)
    · have hf := ipos c6 hf
      cases hf
      exact retv X hK hP hD hS dX4_swap_44
    · have hf := ineg c6 hf
      refine lv_aload_n hx hb dX4_swap_18 rfl (lv_at hl 0 rfl) ?_
      refine va_get (D := D) (ci := 4) (v := .ref a_t_order) (C := RX4) (T := TX4) (N := 7) hx hb hts in_X4_swap_X4 hown hK hP 0 rfl rfl 5 (by decide) (hts (.fieldLink RX4 27 "DivisionHall$Motions" "order" "[I") (by decide +kernel)) (fun _ h9 => h9) rfl dX4_swap_19 ?_
      refine lv_iload_n hx hb dX4_swap_22 rfl (lv_at hl 1 rfl) ?_
      obtain ⟨hi7, hf⟩ := gin_s hf
      refine va_iald hx hb hK hP 1 0 rfl rfl hi7 dX4_swap_23 ?_
      refine lv_istore_n (lv' := [(3, .int (t_order_r (x1).toNatClampNeg)), (0, .ref a_t), (1, .int x1), (2, .int x2)]) hx hb dX4_swap_24 rfl hl (by decide) rfl (fun ls hl => ?_)
      refine lv_aload_n hx hb dX4_swap_25 rfl (lv_at hl 1 rfl) ?_
      refine va_get (D := D) (ci := 4) (v := .ref a_t_order) (C := RX4) (T := TX4) (N := 7) hx hb hts in_X4_swap_X4 hown hK hP 0 rfl rfl 5 (by decide) (hts (.fieldLink RX4 27 "DivisionHall$Motions" "order" "[I") (by decide +kernel)) (fun _ h9 => h9) rfl dX4_swap_26 ?_
      refine lv_iload_n hx hb dX4_swap_29 rfl (lv_at hl 2 rfl) ?_
      refine lv_aload_n hx hb dX4_swap_30 rfl (lv_at hl 1 rfl) ?_
      refine va_get (D := D) (ci := 4) (v := .ref a_t_order) (C := RX4) (T := TX4) (N := 7) hx hb hts in_X4_swap_X4 hown hK hP 0 rfl rfl 5 (by decide) (hts (.fieldLink RX4 27 "DivisionHall$Motions" "order" "[I") (by decide +kernel)) (fun _ h9 => h9) rfl dX4_swap_31 ?_
      refine lv_iload_n hx hb dX4_swap_34 rfl (lv_at hl 3 rfl) ?_
      obtain ⟨hi8, hf⟩ := gin_s hf
      refine va_iald hx hb hK hP 1 0 rfl rfl hi8 dX4_swap_35 ?_
      obtain ⟨hi9, hf⟩ := gin_s hf
      refine va_iast hx hb hK hP hD hS 1 0 rfl rfl hi9 dX4_swap_36 (fun H locs hP hD hS => ?_)
      have hP : va_P D vwCl (wd_X4_swap cI cZ cR a_t a_t_first a_t_rank a_t_told a_t_beaten a_t_leads a_t_order t_count (upd t_order_r (x1).toNatClampNeg (t_order_r (x2).toNatClampNeg))) H := hP
      have hD : va_D A (wd_X4_swap cI cZ cR a_t a_t_first a_t_rank a_t_told a_t_beaten a_t_leads a_t_order t_count (upd t_order_r (x1).toNatClampNeg (t_order_r (x2).toNatClampNeg))) := hD
      refine lv_aload_n hx hb dX4_swap_37 rfl (lv_at hl 1 rfl) ?_
      refine va_get (D := D) (ci := 4) (v := .ref a_t_order) (C := RX4) (T := TX4) (N := 7) hx hb hts in_X4_swap_X4 hown hK hP 0 rfl rfl 5 (by decide) (hts (.fieldLink RX4 27 "DivisionHall$Motions" "order" "[I") (by decide +kernel)) (fun _ h9 => h9) rfl dX4_swap_38 ?_
      refine lv_iload_n hx hb dX4_swap_41 rfl (lv_at hl 3 rfl) ?_
      refine lv_iload_n hx hb dX4_swap_42 rfl (lv_at hl 0 rfl) ?_
      obtain ⟨hi10, hf⟩ := gin_s hf
      refine va_iast hx hb hK hP hD hS 1 0 rfl rfl hi10 dX4_swap_43 (fun H locs hP hD hS => ?_)
      have hP : va_P D vwCl (wd_X4_swap cI cZ cR a_t a_t_first a_t_rank a_t_told a_t_beaten a_t_leads a_t_order t_count (upd (upd t_order_r (x1).toNatClampNeg (t_order_r (x2).toNatClampNeg)) (x2).toNatClampNeg (t_order_r (x1).toNatClampNeg))) H := hP
      have hD : va_D A (wd_X4_swap cI cZ cR a_t a_t_first a_t_rank a_t_told a_t_beaten a_t_leads a_t_order t_count (upd (upd t_order_r (x1).toNatClampNeg (t_order_r (x2).toNatClampNeg)) (x2).toNatClampNeg (t_order_r (x1).toNatClampNeg))) := hD
      cases hf
      exact retv X hK hP hD hS dX4_swap_44

abbrev wd_X4_nextOrder (cI cZ cR : ClassId) (a_t a_t_first a_t_rank a_t_told a_t_beaten a_t_leads a_t_order : Nat) (t_count : Int32) (t_order_r : Nat → Int32) : va_W := [(a_t, oB 4 [.ref a_t_first, .ref a_t_rank, .ref a_t_told, .ref a_t_beaten, .ref a_t_leads, .ref a_t_order, .int t_count]), (a_t_order, aI cI 6 t_order_r)]
set_option maxRecDepth 100000 in
theorem in_X4_nextOrder_X4 : ∀ w ∈ wsX40, w ∈ wsX4_nextOrder := by decide +kernel
set_option maxHeartbeats 4000000 in
set_option maxRecDepth 100000 in
theorem w_X4_nextOrder_107 {p : Program} {l : Launch} {e : Env} {s : State} {m : MethodId} {args : Array Value} {below : List Frame} {meth : Method} {c : Code} {D : va_G} {cI cZ cR : ClassId} {A : Nat → Prop} {a_t a_t_first a_t_rank a_t_told a_t_beaten a_t_leads a_t_order : Nat} {t_count : Int32} {out : Int32 × (Nat → Int32)} (X : cx p s m args meth c cX4_nextOrder 5 (some .boolean) RX4 wsX4_nextOrder) (hK : va_K D vwCl (ty3 cI cZ cR) s) (hA : ∀ q, s.heap.size ≤ q → A q) : ∀ (n : Nat) (x3 : Int32) (x4 : Int32) (t_order_r : Nat → Int32), F_X4_nextOrder_107 t_count n x3 x4 t_order_r = some out → ∀ (H : Heap) (locs : List Loc), va_P D vwCl (wd_X4_nextOrder cI cZ cR a_t a_t_first a_t_rank a_t_told a_t_beaten a_t_leads a_t_order t_count t_order_r) H → va_D A (wd_X4_nextOrder cI cZ cR a_t a_t_first a_t_rank a_t_told a_t_beaten a_t_leads a_t_order t_count t_order_r) → va_S A s.heap H locs → ∀ (ls : Array Slot), lv_has ls 5 [(0, .ref a_t), (3, .int x3), (4, .int x4)] → W p l e (headSpec wsX4_nextOrder ({ frames := 2, cells := 0, slots := 0, locals := 44 } : Room)).room s m args below meth c H locs 0 0 (MQ below (qi D cI cZ cR A (out.1) (wd_X4_nextOrder cI cZ cR a_t a_t_first a_t_rank a_t_told a_t_beaten a_t_leads a_t_order t_count (out.2))) args s 0 0 A) (F0 m 107 ls []) := by
  obtain ⟨hx, hb, hml, hr, hown, hts, hlocks, hN⟩ := id X
  intro n
  induction n with
  | zero =>
    intro x3 x4 t_order_r hf
    cases (show (none : Option (Int32 × (Nat → Int32))) = some out from hf)
  | succ n ih =>
    intro x3 x4 t_order_r hf H locs hP hD hS ls hl
    rw [F_X4_nextOrder_107] at hf
    refine lv_iload_n hx hb dX4_nextOrder_107 rfl (lv_at hl 1 rfl) ?_
    refine lv_iload hx hb dX4_nextOrder_108 (lv_at hl 2 rfl) ?_
    refine lv_icmp_ge (tgt := 129) hx hb dX4_nextOrder_110 (by decide) (fun c15 => ?_) (fun c15 => ?_)
    · have hf := ipos c15 hf
      refine lv_iconst (v := (1 : Int32)) hx hb dX4_nextOrder_129 (by decide) ?_
      cases hf
      exact retz (Or.inr rfl) X hK hP hD hS dX4_nextOrder_130
    · have hf := ineg c15 hf
      refine lv_aload_n hx hb dX4_nextOrder_113 rfl (lv_at hl 0 rfl) ?_
      refine lv_iload_n hx hb dX4_nextOrder_114 rfl (lv_at hl 1 rfl) ?_
      refine lv_iload hx hb dX4_nextOrder_115 (lv_at hl 2 rfl) ?_
      obtain ⟨r16, hr17, hf⟩ := bnd hf
      refine wcallvA (D := D) (cI := cI) (cZ := cZ) (cR := cR) (wc := (wd_X4_swap cI cZ cR a_t a_t_first a_t_rank a_t_told a_t_beaten a_t_leads a_t_order t_count t_order_r)) (w' := (wd_X4_swap cI cZ cR a_t a_t_first a_t_rank a_t_told a_t_beaten a_t_leads a_t_order t_count r16)) hP hD hS hA rfl (rnVA (As := [.int x3, .int x4]) (ci := 4) (q0 := 0) X hK hP hD rfl rfl (c_X4_swap l D cI cZ cR hr17) (cwV 2 hts gX4_nextOrder_X4_swap rfl rfl rfl (by decide +kernel) ⟨Nat.le_of_ble_eq_true rfl, Nat.le_of_ble_eq_true rfl⟩) rfl hl.1 rfl (Nat.le_of_ble_eq_true rfl) dX4_nextOrder_117) (fun H locs hP hD hS => ?_)
      have hP : va_P D vwCl (wd_X4_nextOrder cI cZ cR a_t a_t_first a_t_rank a_t_told a_t_beaten a_t_leads a_t_order t_count r16) H := hP
      have hD : va_D A (wd_X4_nextOrder cI cZ cR a_t a_t_first a_t_rank a_t_told a_t_beaten a_t_leads a_t_order t_count r16) := hD
      refine lv_iinc (v := (x3 + (1 : Int32))) (lv' := [(3, .int (x3 + (1 : Int32))), (0, .ref a_t), (4, .int x4)]) hx hb dX4_nextOrder_120 hl (k := 1) rfl rfl (by decide) rfl (fun ls hl => ?_)
      refine lv_iinc (v := (x4 + (-1 : Int32))) (lv' := [(4, .int (x4 + (-1 : Int32))), (3, .int (x3 + (1 : Int32))), (0, .ref a_t)]) hx hb dX4_nextOrder_123 hl (k := 2) rfl rfl (by decide) rfl (fun ls hl => ?_)
      refine lv_goto (tgt := 107) hx hb dX4_nextOrder_126 (by decide) ?_
      exact ih (x3 + (1 : Int32)) (x4 + (-1 : Int32)) r16 hf _ _ hP hD hS _ (lv_sub hl [2, 1, 0] rfl)
set_option maxHeartbeats 4000000 in
set_option maxRecDepth 100000 in
theorem w_X4_nextOrder_89 {p : Program} {l : Launch} {e : Env} {s : State} {m : MethodId} {args : Array Value} {below : List Frame} {meth : Method} {c : Code} {D : va_G} {cI cZ cR : ClassId} {A : Nat → Prop} {a_t a_t_first a_t_rank a_t_told a_t_beaten a_t_leads a_t_order : Nat} {t_count : Int32} {out : Int32 × (Nat → Int32)} (X : cx p s m args meth c cX4_nextOrder 5 (some .boolean) RX4 wsX4_nextOrder) (hK : va_K D vwCl (ty3 cI cZ cR) s) (hA : ∀ q, s.heap.size ≤ q → A q) : ∀ (x1 : Int32) (x2 : Int32) (t_order_r : Nat → Int32), F_X4_nextOrder_89 t_count x1 x2 t_order_r = some out → ∀ (H : Heap) (locs : List Loc), va_P D vwCl (wd_X4_nextOrder cI cZ cR a_t a_t_first a_t_rank a_t_told a_t_beaten a_t_leads a_t_order t_count t_order_r) H → va_D A (wd_X4_nextOrder cI cZ cR a_t a_t_first a_t_rank a_t_told a_t_beaten a_t_leads a_t_order t_count t_order_r) → va_S A s.heap H locs → ∀ (ls : Array Slot), lv_has ls 5 [(0, .ref a_t), (1, .int x1), (2, .int x2)] → W p l e (headSpec wsX4_nextOrder ({ frames := 2, cells := 0, slots := 0, locals := 44 } : Room)).room s m args below meth c H locs 0 0 (MQ below (qi D cI cZ cR A (out.1) (wd_X4_nextOrder cI cZ cR a_t a_t_first a_t_rank a_t_told a_t_beaten a_t_leads a_t_order t_count (out.2))) args s 0 0 A) (F0 m 89 ls []) := by
  obtain ⟨hx, hb, hml, hr, hown, hts, hlocks, hN⟩ := id X
  intro x1 x2 t_order_r hf H locs hP hD hS ls hl
  unfold F_X4_nextOrder_89 at hf
  refine lv_aload_n hx hb dX4_nextOrder_89 rfl (lv_at hl 0 rfl) ?_
  refine lv_iload_n hx hb dX4_nextOrder_90 rfl (lv_at hl 1 rfl) ?_
  refine lv_iload_n hx hb dX4_nextOrder_91 rfl (lv_at hl 2 rfl) ?_
  obtain ⟨r13, hr14, hf⟩ := bnd hf
  refine wcallvA (D := D) (cI := cI) (cZ := cZ) (cR := cR) (wc := (wd_X4_swap cI cZ cR a_t a_t_first a_t_rank a_t_told a_t_beaten a_t_leads a_t_order t_count t_order_r)) (w' := (wd_X4_swap cI cZ cR a_t a_t_first a_t_rank a_t_told a_t_beaten a_t_leads a_t_order t_count r13)) hP hD hS hA rfl (rnVA (As := [.int x1, .int x2]) (ci := 4) (q0 := 0) X hK hP hD rfl rfl (c_X4_swap l D cI cZ cR hr14) (cwV 2 hts gX4_nextOrder_X4_swap rfl rfl rfl (by decide +kernel) ⟨Nat.le_of_ble_eq_true rfl, Nat.le_of_ble_eq_true rfl⟩) rfl hl.1 rfl (Nat.le_of_ble_eq_true rfl) dX4_nextOrder_92) (fun H locs hP hD hS => ?_)
  have hP : va_P D vwCl (wd_X4_nextOrder cI cZ cR a_t a_t_first a_t_rank a_t_told a_t_beaten a_t_leads a_t_order t_count r13) H := hP
  have hD : va_D A (wd_X4_nextOrder cI cZ cR a_t a_t_first a_t_rank a_t_told a_t_beaten a_t_leads a_t_order t_count r13) := hD
  refine lv_iload_n hx hb dX4_nextOrder_95 rfl (lv_at hl 1 rfl) ?_
  refine lv_iconst (v := (1 : Int32)) hx hb dX4_nextOrder_96 (by decide) ?_
  refine lv_iadd hx hb dX4_nextOrder_97 ?_
  refine lv_istore_n (lv' := [(3, .int (x1 + (1 : Int32))), (0, .ref a_t), (1, .int x1), (2, .int x2)]) hx hb dX4_nextOrder_98 rfl hl (by decide) rfl (fun ls hl => ?_)
  refine lv_aload_n hx hb dX4_nextOrder_99 rfl (lv_at hl 1 rfl) ?_
  refine va_get (D := D) (ci := 4) (v := .int t_count) (C := RX4) (T := TX4) (N := 7) hx hb hts in_X4_nextOrder_X4 hown hK hP 0 rfl rfl 6 (by decide) (hts (.fieldLink RX4 65 "DivisionHall$Motions" "count" "I") (by decide +kernel)) (fun _ h9 => h9) rfl dX4_nextOrder_100 ?_
  refine lv_iconst (v := (1 : Int32)) hx hb dX4_nextOrder_103 (by decide) ?_
  refine lv_isub hx hb dX4_nextOrder_104 ?_
  refine lv_istore (lv' := [(4, .int (t_count - (1 : Int32))), (3, .int (x1 + (1 : Int32))), (0, .ref a_t), (1, .int x1), (2, .int x2)]) hx hb dX4_nextOrder_105 hl (by decide) rfl (fun ls hl => ?_)
  exact w_X4_nextOrder_107 X hK hA _ (x1 + (1 : Int32)) (t_count - (1 : Int32)) r13 hf _ _ hP hD hS _ (lv_sub hl [2, 1, 0] rfl)
set_option maxHeartbeats 4000000 in
set_option maxRecDepth 100000 in
theorem w_X4_nextOrder_63 {p : Program} {l : Launch} {e : Env} {s : State} {m : MethodId} {args : Array Value} {below : List Frame} {meth : Method} {c : Code} {D : va_G} {cI cZ cR : ClassId} {A : Nat → Prop} {a_t a_t_first a_t_rank a_t_told a_t_beaten a_t_leads a_t_order : Nat} {t_count : Int32} {out : Int32 × (Nat → Int32)} (X : cx p s m args meth c cX4_nextOrder 5 (some .boolean) RX4 wsX4_nextOrder) (hK : va_K D vwCl (ty3 cI cZ cR) s) (hA : ∀ q, s.heap.size ≤ q → A q) : ∀ (n : Nat) (x1 : Int32) (x2 : Int32) (t_order_r : Nat → Int32), F_X4_nextOrder_63 t_count n x1 x2 t_order_r = some out → ∀ (H : Heap) (locs : List Loc), va_P D vwCl (wd_X4_nextOrder cI cZ cR a_t a_t_first a_t_rank a_t_told a_t_beaten a_t_leads a_t_order t_count t_order_r) H → va_D A (wd_X4_nextOrder cI cZ cR a_t a_t_first a_t_rank a_t_told a_t_beaten a_t_leads a_t_order t_count t_order_r) → va_S A s.heap H locs → ∀ (ls : Array Slot), lv_has ls 5 [(0, .ref a_t), (1, .int x1), (2, .int x2)] → W p l e (headSpec wsX4_nextOrder ({ frames := 2, cells := 0, slots := 0, locals := 44 } : Room)).room s m args below meth c H locs 0 0 (MQ below (qi D cI cZ cR A (out.1) (wd_X4_nextOrder cI cZ cR a_t a_t_first a_t_rank a_t_told a_t_beaten a_t_leads a_t_order t_count (out.2))) args s 0 0 A) (F0 m 63 ls []) := by
  obtain ⟨hx, hb, hml, hr, hown, hts, hlocks, hN⟩ := id X
  intro n
  induction n with
  | zero =>
    intro x1 x2 t_order_r hf
    cases (show (none : Option (Int32 × (Nat → Int32))) = some out from hf)
  | succ n ih =>
    intro x1 x2 t_order_r hf H locs hP hD hS ls hl
    rw [F_X4_nextOrder_63] at hf
    refine lv_iload_n hx hb dX4_nextOrder_63 rfl (lv_at hl 2 rfl) ?_
    refine lv_iload_n hx hb dX4_nextOrder_64 rfl (lv_at hl 1 rfl) ?_
    refine lv_icmp_le (tgt := 89) hx hb dX4_nextOrder_65 (by decide) (fun c9 => ?_) (fun c9 => ?_)
    · have hf := ipos c9 hf
      exact w_X4_nextOrder_89 X hK hA x1 x2 t_order_r hf _ _ hP hD hS _ (lv_sub hl [0, 1, 2] rfl)
    · have hf := ineg c9 hf
      refine lv_aload_n hx hb dX4_nextOrder_68 rfl (lv_at hl 0 rfl) ?_
      refine va_get (D := D) (ci := 4) (v := .ref a_t_order) (C := RX4) (T := TX4) (N := 7) hx hb hts in_X4_nextOrder_X4 hown hK hP 0 rfl rfl 5 (by decide) (hts (.fieldLink RX4 27 "DivisionHall$Motions" "order" "[I") (by decide +kernel)) (fun _ h9 => h9) rfl dX4_nextOrder_69 ?_
      refine lv_iload_n hx hb dX4_nextOrder_72 rfl (lv_at hl 2 rfl) ?_
      obtain ⟨hi10, hf⟩ := gin_s hf
      refine va_iald hx hb hK hP 1 0 rfl rfl hi10 dX4_nextOrder_73 ?_
      refine lv_aload_n hx hb dX4_nextOrder_74 rfl (lv_at hl 0 rfl) ?_
      refine va_get (D := D) (ci := 4) (v := .ref a_t_order) (C := RX4) (T := TX4) (N := 7) hx hb hts in_X4_nextOrder_X4 hown hK hP 0 rfl rfl 5 (by decide) (hts (.fieldLink RX4 27 "DivisionHall$Motions" "order" "[I") (by decide +kernel)) (fun _ h9 => h9) rfl dX4_nextOrder_75 ?_
      refine lv_iload_n hx hb dX4_nextOrder_78 rfl (lv_at hl 1 rfl) ?_
      obtain ⟨hi11, hf⟩ := gin_s hf
      refine va_iald hx hb hK hP 1 0 rfl rfl hi11 dX4_nextOrder_79 ?_
      refine lv_icmp_ge (tgt := 89) hx hb dX4_nextOrder_80 (by decide) (fun c12 => ?_) (fun c12 => ?_)
      · have hf := ipos c12 hf
        exact w_X4_nextOrder_89 X hK hA x1 x2 t_order_r hf _ _ hP hD hS _ (lv_sub hl [0, 1, 2] rfl)
      · have hf := ineg c12 hf
        refine lv_iinc (v := (x2 + (-1 : Int32))) (lv' := [(2, .int (x2 + (-1 : Int32))), (0, .ref a_t), (1, .int x1)]) hx hb dX4_nextOrder_83 hl (k := 2) rfl rfl (by decide) rfl (fun ls hl => ?_)
        refine lv_goto (tgt := 63) hx hb dX4_nextOrder_86 (by decide) ?_
        exact ih x1 (x2 + (-1 : Int32)) t_order_r hf _ _ hP hD hS _ (lv_sub hl [1, 2, 0] rfl)
set_option maxHeartbeats 4000000 in
set_option maxRecDepth 100000 in
theorem w_X4_nextOrder_50 {p : Program} {l : Launch} {e : Env} {s : State} {m : MethodId} {args : Array Value} {below : List Frame} {meth : Method} {c : Code} {D : va_G} {cI cZ cR : ClassId} {A : Nat → Prop} {a_t a_t_first a_t_rank a_t_told a_t_beaten a_t_leads a_t_order : Nat} {t_count : Int32} {out : Int32 × (Nat → Int32)} (X : cx p s m args meth c cX4_nextOrder 5 (some .boolean) RX4 wsX4_nextOrder) (hK : va_K D vwCl (ty3 cI cZ cR) s) (hA : ∀ q, s.heap.size ≤ q → A q) : ∀ (x1 : Int32) (t_order_r : Nat → Int32), F_X4_nextOrder_50 t_count x1 t_order_r = some out → ∀ (H : Heap) (locs : List Loc), va_P D vwCl (wd_X4_nextOrder cI cZ cR a_t a_t_first a_t_rank a_t_told a_t_beaten a_t_leads a_t_order t_count t_order_r) H → va_D A (wd_X4_nextOrder cI cZ cR a_t a_t_first a_t_rank a_t_told a_t_beaten a_t_leads a_t_order t_count t_order_r) → va_S A s.heap H locs → ∀ (ls : Array Slot), lv_has ls 5 [(0, .ref a_t), (1, .int x1)] → W p l e (headSpec wsX4_nextOrder ({ frames := 2, cells := 0, slots := 0, locals := 44 } : Room)).room s m args below meth c H locs 0 0 (MQ below (qi D cI cZ cR A (out.1) (wd_X4_nextOrder cI cZ cR a_t a_t_first a_t_rank a_t_told a_t_beaten a_t_leads a_t_order t_count (out.2))) args s 0 0 A) (F0 m 50 ls []) := by
  obtain ⟨hx, hb, hml, hr, hown, hts, hlocks, hN⟩ := id X
  intro x1 t_order_r hf H locs hP hD hS ls hl
  unfold F_X4_nextOrder_50 at hf
  refine lv_iload_n hx hb dX4_nextOrder_50 rfl (lv_at hl 1 rfl) ?_
  refine lv_if_ge (tgt := 56) hx hb dX4_nextOrder_51 (by decide) (fun c8 => ?_) (fun c8 => ?_)
  · have hf := ipos c8 hf
    refine lv_aload_n hx hb dX4_nextOrder_56 rfl (lv_at hl 0 rfl) ?_
    refine va_get (D := D) (ci := 4) (v := .int t_count) (C := RX4) (T := TX4) (N := 7) hx hb hts in_X4_nextOrder_X4 hown hK hP 0 rfl rfl 6 (by decide) (hts (.fieldLink RX4 65 "DivisionHall$Motions" "count" "I") (by decide +kernel)) (fun _ h9 => h9) rfl dX4_nextOrder_57 ?_
    refine lv_iconst (v := (1 : Int32)) hx hb dX4_nextOrder_60 (by decide) ?_
    refine lv_isub hx hb dX4_nextOrder_61 ?_
    refine lv_istore_n (lv' := [(2, .int (t_count - (1 : Int32))), (0, .ref a_t), (1, .int x1)]) hx hb dX4_nextOrder_62 rfl hl (by decide) rfl (fun ls hl => ?_)
    exact w_X4_nextOrder_63 X hK hA _ x1 (t_count - (1 : Int32)) t_order_r hf _ _ hP hD hS _ (lv_sub hl [1, 2, 0] rfl)
  · have hf := ineg c8 hf
    refine lv_iconst (v := (0 : Int32)) hx hb dX4_nextOrder_54 (by decide) ?_
    cases hf
    exact retz (Or.inl rfl) X hK hP hD hS dX4_nextOrder_55
set_option maxHeartbeats 4000000 in
set_option maxRecDepth 100000 in
theorem w_X4_nextOrder_23 {p : Program} {l : Launch} {e : Env} {s : State} {m : MethodId} {args : Array Value} {below : List Frame} {meth : Method} {c : Code} {D : va_G} {cI cZ cR : ClassId} {A : Nat → Prop} {a_t a_t_first a_t_rank a_t_told a_t_beaten a_t_leads a_t_order : Nat} {t_count : Int32} {out : Int32 × (Nat → Int32)} (X : cx p s m args meth c cX4_nextOrder 5 (some .boolean) RX4 wsX4_nextOrder) (hK : va_K D vwCl (ty3 cI cZ cR) s) (hA : ∀ q, s.heap.size ≤ q → A q) : ∀ (n : Nat) (x1 : Int32) (t_order_r : Nat → Int32), F_X4_nextOrder_23 t_count n x1 t_order_r = some out → ∀ (H : Heap) (locs : List Loc), va_P D vwCl (wd_X4_nextOrder cI cZ cR a_t a_t_first a_t_rank a_t_told a_t_beaten a_t_leads a_t_order t_count t_order_r) H → va_D A (wd_X4_nextOrder cI cZ cR a_t a_t_first a_t_rank a_t_told a_t_beaten a_t_leads a_t_order t_count t_order_r) → va_S A s.heap H locs → ∀ (ls : Array Slot), lv_has ls 5 [(0, .ref a_t), (1, .int x1)] → W p l e (headSpec wsX4_nextOrder ({ frames := 2, cells := 0, slots := 0, locals := 44 } : Room)).room s m args below meth c H locs 0 0 (MQ below (qi D cI cZ cR A (out.1) (wd_X4_nextOrder cI cZ cR a_t a_t_first a_t_rank a_t_told a_t_beaten a_t_leads a_t_order t_count (out.2))) args s 0 0 A) (F0 m 23 ls []) := by
  obtain ⟨hx, hb, hml, hr, hown, hts, hlocks, hN⟩ := id X
  intro n
  induction n with
  | zero =>
    intro x1 t_order_r hf
    cases (show (none : Option (Int32 × (Nat → Int32))) = some out from hf)
  | succ n ih =>
    intro x1 t_order_r hf H locs hP hD hS ls hl
    rw [F_X4_nextOrder_23] at hf
    refine lv_iload_n hx hb dX4_nextOrder_23 rfl (lv_at hl 1 rfl) ?_
    refine lv_if_lt (tgt := 50) hx hb dX4_nextOrder_24 (by decide) (fun c4 => ?_) (fun c4 => ?_)
    · have hf := ipos c4 hf
      exact w_X4_nextOrder_50 X hK hA x1 t_order_r hf _ _ hP hD hS _ (lv_sub hl [0, 1] rfl)
    · have hf := ineg c4 hf
      refine lv_aload_n hx hb dX4_nextOrder_27 rfl (lv_at hl 0 rfl) ?_
      refine va_get (D := D) (ci := 4) (v := .ref a_t_order) (C := RX4) (T := TX4) (N := 7) hx hb hts in_X4_nextOrder_X4 hown hK hP 0 rfl rfl 5 (by decide) (hts (.fieldLink RX4 27 "DivisionHall$Motions" "order" "[I") (by decide +kernel)) (fun _ h9 => h9) rfl dX4_nextOrder_28 ?_
      refine lv_iload_n hx hb dX4_nextOrder_31 rfl (lv_at hl 1 rfl) ?_
      obtain ⟨hi5, hf⟩ := gin_s hf
      refine va_iald hx hb hK hP 1 0 rfl rfl hi5 dX4_nextOrder_32 ?_
      refine lv_aload_n hx hb dX4_nextOrder_33 rfl (lv_at hl 0 rfl) ?_
      refine va_get (D := D) (ci := 4) (v := .ref a_t_order) (C := RX4) (T := TX4) (N := 7) hx hb hts in_X4_nextOrder_X4 hown hK hP 0 rfl rfl 5 (by decide) (hts (.fieldLink RX4 27 "DivisionHall$Motions" "order" "[I") (by decide +kernel)) (fun _ h9 => h9) rfl dX4_nextOrder_34 ?_
      refine lv_iload_n hx hb dX4_nextOrder_37 rfl (lv_at hl 1 rfl) ?_
      refine lv_iconst (v := (1 : Int32)) hx hb dX4_nextOrder_38 (by decide) ?_
      refine lv_iadd hx hb dX4_nextOrder_39 ?_
      obtain ⟨hi6, hf⟩ := gin_s hf
      refine va_iald hx hb hK hP 1 0 rfl rfl hi6 dX4_nextOrder_40 ?_
      refine lv_icmp_le (tgt := 50) hx hb dX4_nextOrder_41 (by decide) (fun c7 => ?_) (fun c7 => ?_)
      · have hf := ipos c7 hf
        exact w_X4_nextOrder_50 X hK hA x1 t_order_r hf _ _ hP hD hS _ (lv_sub hl [0, 1] rfl)
      · have hf := ineg c7 hf
        refine lv_iinc (v := (x1 + (-1 : Int32))) (lv' := [(1, .int (x1 + (-1 : Int32))), (0, .ref a_t)]) hx hb dX4_nextOrder_44 hl (k := 1) rfl rfl (by decide) rfl (fun ls hl => ?_)
        refine lv_goto (tgt := 23) hx hb dX4_nextOrder_47 (by decide) ?_
        exact ih (x1 + (-1 : Int32)) t_order_r hf _ _ hP hD hS _ (lv_sub hl [1, 0] rfl)
set_option maxHeartbeats 4000000 in
set_option maxRecDepth 100000 in
theorem c_X4_nextOrder (l : Launch) (D : va_G) (cI cZ cR : ClassId) {a_t a_t_first a_t_rank a_t_told a_t_beaten a_t_leads a_t_order : Nat} {t_count : Int32} {t_order_r : Nat → Int32} {sz : Nat} {out : Int32 × (Nat → Int32)} (hf : F_X4_nextOrder t_count t_order_r = some out) : CI l yX4_nextOrder wsX4_nextOrder ({ frames := 2, cells := 0, slots := 0, locals := 44 } : Room) D cI cZ cR [.ref a_t] (wd_X4_nextOrder cI cZ cR a_t a_t_first a_t_rank a_t_told a_t_beaten a_t_leads a_t_order t_count t_order_r) sz (out.1) (wd_X4_nextOrder cI cZ cR a_t a_t_first a_t_rank a_t_told a_t_beaten a_t_leads a_t_order t_count (out.2)) := by
  refine met_of (Qf := fun A => qi D cI cZ cR A (out.1) (wd_X4_nextOrder cI cZ cR a_t a_t_first a_t_rank a_t_told a_t_beaten a_t_leads a_t_order t_count (out.2))) RX4 (by decide +kernel) rfl rfl (Nat.le_of_ble_eq_true rfl) ?_
  intro p e s m below meth c A X hK hA hP hD hS ls hl
  have hl : lv_has ls 5 [(0, .ref a_t)] := hl
  obtain ⟨hx, hb, hml, hr, hown, hts, hlocks, hN⟩ := id X
  unfold F_X4_nextOrder at hf
  refine lv_aload_n hx hb dX4_nextOrder_0 rfl (lv_at hl 0 rfl) ?_
  refine va_get (D := D) (ci := 4) (v := .int t_count) (C := RX4) (T := TX4) (N := 7) hx hb hts in_X4_nextOrder_X4 hown hK hP 0 rfl rfl 6 (by decide) (hts (.fieldLink RX4 65 "DivisionHall$Motions" "count" "I") (by decide +kernel)) (fun _ h9 => h9) rfl dX4_nextOrder_1 ?_
  refine lv_iconst (v := (1 : Int32)) hx hb dX4_nextOrder_4 (by decide) ?_
  refine lv_isub hx hb dX4_nextOrder_5 ?_
  refine lv_bipush (v := (6 : Int32)) hx hb dX4_nextOrder_6 (by decide) ?_
  obtain ⟨r1, hr2, hf⟩ := bnd hf
  refine wcalli (D := D) (cI := cI) (cZ := cZ) (cR := cR) (wc := (wd_X11_inside cI cZ cR)) (w' := (wd_X11_inside cI cZ cR)) [] hP hD hS hA rfl rfl rfl (rnSN (As := [.int (t_count - (1 : Int32)), .int (6 : Int32)]) X [] hK hP hD rfl rfl (c_X11_inside l D cI cZ cR hr2) ⟨va_cnB (host := "DivisionHall") 2 hts ggX4_nextOrder_X11_inside rfl rfl rfl (hN.2.1 ("DivisionHall$Motions", 36, yX11_inside, "DivisionHall") (by decide +kernel)) (hts (.initialized RX11) (by decide +kernel)) (by decide +kernel) ⟨Nat.le_of_ble_eq_true rfl, Nat.le_of_ble_eq_true rfl⟩, hts (.static yX11_inside) (by decide +kernel), trivial⟩ rfl hl.1 rfl (Nat.le_of_ble_eq_true rfl) dX4_nextOrder_8) (fun H locs hP hD hS => ?_)
  have hP : va_P D vwCl (wd_X4_nextOrder cI cZ cR a_t a_t_first a_t_rank a_t_told a_t_beaten a_t_leads a_t_order t_count t_order_r) H := hP
  have hD : va_D A (wd_X4_nextOrder cI cZ cR a_t a_t_first a_t_rank a_t_told a_t_beaten a_t_leads a_t_order t_count t_order_r) := hD
  refine lv_if_ne (tgt := 16) hx hb dX4_nextOrder_11 (by decide) (fun c3 => ?_) (fun c3 => ?_)
  · have hf := ineg c3 hf
    refine lv_aload_n hx hb dX4_nextOrder_16 rfl (lv_at hl 0 rfl) ?_
    refine va_get (D := D) (ci := 4) (v := .int t_count) (C := RX4) (T := TX4) (N := 7) hx hb hts in_X4_nextOrder_X4 hown hK hP 0 rfl rfl 6 (by decide) (hts (.fieldLink RX4 65 "DivisionHall$Motions" "count" "I") (by decide +kernel)) (fun _ h9 => h9) rfl dX4_nextOrder_17 ?_
    refine lv_iconst (v := (2 : Int32)) hx hb dX4_nextOrder_20 (by decide) ?_
    refine lv_isub hx hb dX4_nextOrder_21 ?_
    refine lv_istore_n (lv' := [(1, .int (t_count - (2 : Int32))), (0, .ref a_t)]) hx hb dX4_nextOrder_22 rfl hl (by decide) rfl (fun ls hl => ?_)
    exact w_X4_nextOrder_23 X hK hA _ (t_count - (2 : Int32)) t_order_r hf _ _ hP hD hS _ (lv_sub hl [1, 0] rfl)
  · have hf := ipos c3 hf
    refine lv_iconst (v := (0 : Int32)) hx hb dX4_nextOrder_14 (by decide) ?_
    cases hf
    exact retz (Or.inl rfl) X hK hP hD hS dX4_nextOrder_15

abbrev wd_X4_ordersFor (cI cZ cR : ClassId) (a_t a_t_first a_t_rank a_t_told a_t_beaten a_t_leads a_t_order : Nat) (t_count : Int32) (t_beaten_r : Nat → Int32) (t_leads_r : Nat → Int32) (t_order_r : Nat → Int32) : va_W := [(a_t, oB 4 [.ref a_t_first, .ref a_t_rank, .ref a_t_told, .ref a_t_beaten, .ref a_t_leads, .ref a_t_order, .int t_count]), (a_t_beaten, aI cI 6 t_beaten_r), (a_t_leads, aI cI 6 t_leads_r), (a_t_order, aI cI 6 t_order_r)]
set_option maxHeartbeats 4000000 in
set_option maxRecDepth 100000 in
theorem w_X4_ordersFor_13 {p : Program} {l : Launch} {e : Env} {s : State} {m : MethodId} {args : Array Value} {below : List Frame} {meth : Method} {c : Code} {D : va_G} {cI cZ cR : ClassId} {A : Nat → Prop} {a_t a_t_first a_t_rank a_t_told a_t_beaten a_t_leads a_t_order : Nat} {t_beaten_r : Nat → Int32} {x1 : Int32} {x3 : Int32} {out : Int32 × Int32 × (Nat → Int32) × (Nat → Int32)} (X : cx p s m args meth c cX4_ordersFor 7 (some .int) RX4 wsX4_ordersFor) (hK : va_K D vwCl (ty3 cI cZ cR) s) (hA : ∀ q, s.heap.size ≤ q → A q) : ∀ (n : Nat) (x4 : Int32) (x5 : Int32) (x6 : Int32) (t_count : Int32) (t_leads_r : Nat → Int32) (t_order_r : Nat → Int32), F_X4_ordersFor_13 x1 x3 t_beaten_r n x4 x5 x6 t_count t_leads_r t_order_r = some out → ∀ (H : Heap) (locs : List Loc), va_P D vwCl (wd_X4_ordersFor cI cZ cR a_t a_t_first a_t_rank a_t_told a_t_beaten a_t_leads a_t_order t_count t_beaten_r t_leads_r t_order_r) H → va_D A (wd_X4_ordersFor cI cZ cR a_t a_t_first a_t_rank a_t_told a_t_beaten a_t_leads a_t_order t_count t_beaten_r t_leads_r t_order_r) → va_S A s.heap H locs → ∀ (ls : Array Slot), lv_has ls 7 [(0, .ref a_t), (1, .int x1), (3, .int x3), (4, .int x4), (5, .int x5), (6, .int x6)] → W p l e (headSpec wsX4_ordersFor ({ frames := 4, cells := 0, slots := 0, locals := 87 } : Room)).room s m args below meth c H locs 0 0 (MQ below (qi D cI cZ cR A (out.1) (wd_X4_ordersFor cI cZ cR a_t a_t_first a_t_rank a_t_told a_t_beaten a_t_leads a_t_order (out.2.1) t_beaten_r (out.2.2.1) (out.2.2.2))) args s 0 0 A) (F0 m 13 ls []) := by
  obtain ⟨hx, hb, hml, hr, hown, hts, hlocks, hN⟩ := id X
  intro n
  induction n with
  | zero =>
    intro x4 x5 x6 t_count t_leads_r t_order_r hf
    cases (show (none : Option (Int32 × Int32 × (Nat → Int32) × (Nat → Int32))) = some out from hf)
  | succ n ih =>
    intro x4 x5 x6 t_count t_leads_r t_order_r hf H locs hP hD hS ls hl
    rw [F_X4_ordersFor_13] at hf
    refine lv_iload hx hb dX4_ordersFor_13 (lv_at hl 5 rfl) ?_
    refine lv_sipush (v := (720 : Int32)) hx hb dX4_ordersFor_15 (by decide) ?_
    refine lv_icmp_ge (tgt := 50) hx hb dX4_ordersFor_18 (by decide) (fun c3 => ?_) (fun c3 => ?_)
    · have hf := ipos c3 hf
      refine lv_iload hx hb dX4_ordersFor_50 (lv_at hl 3 rfl) ?_
      cases hf
      exact reti X hK hP hD hS dX4_ordersFor_52
    · have hf := ineg c3 hf
      refine lv_iload hx hb dX4_ordersFor_21 (lv_at hl 4 rfl) ?_
      refine lv_if_eq (tgt := 50) hx hb dX4_ordersFor_23 (by decide) (fun c4 => ?_) (fun c4 => ?_)
      · have hf := ipos c4 hf
        refine lv_iload hx hb dX4_ordersFor_50 (lv_at hl 3 rfl) ?_
        cases hf
        exact reti X hK hP hD hS dX4_ordersFor_52
      · have hf := ineg c4 hf
        refine lv_aload_n hx hb dX4_ordersFor_26 rfl (lv_at hl 0 rfl) ?_
        refine lv_iload_n hx hb dX4_ordersFor_27 rfl (lv_at hl 2 rfl) ?_
        obtain ⟨r5, hr6, hf⟩ := bnd hf
        refine wcalliA (D := D) (cI := cI) (cZ := cZ) (cR := cR) (wc := (wd_X4_outcome cI cZ cR a_t a_t_first a_t_rank a_t_told a_t_beaten a_t_leads a_t_order t_count t_beaten_r t_leads_r t_order_r)) (w' := (wd_X4_outcome cI cZ cR a_t a_t_first a_t_rank a_t_told a_t_beaten a_t_leads a_t_order t_count t_beaten_r (r5.2) t_order_r)) hP hD hS hA rfl (rnVA (As := [.int x3]) (ci := 4) (q0 := 0) X hK hP hD rfl rfl (c_X4_outcome l D cI cZ cR hr6) (cwV 1 hts gX4_ordersFor_X4_outcome rfl rfl rfl (by decide +kernel) ⟨Nat.le_of_ble_eq_true rfl, Nat.le_of_ble_eq_true rfl⟩) rfl hl.1 rfl (Nat.le_of_ble_eq_true rfl) dX4_ordersFor_28) (fun H locs hP hD hS => ?_)
        have hP : va_P D vwCl (wd_X4_ordersFor cI cZ cR a_t a_t_first a_t_rank a_t_told a_t_beaten a_t_leads a_t_order t_count t_beaten_r (r5.2) t_order_r) H := hP
        have hD : va_D A (wd_X4_ordersFor cI cZ cR a_t a_t_first a_t_rank a_t_told a_t_beaten a_t_leads a_t_order t_count t_beaten_r (r5.2) t_order_r) := hD
        refine lv_iload_n hx hb dX4_ordersFor_31 rfl (lv_at hl 1 rfl) ?_
        refine lv_icmp_ne (tgt := 38) hx hb dX4_ordersFor_32 (by decide) (fun c7 => ?_) (fun c7 => ?_)
        · have hf := ineg c7 hf
          refine lv_aload_n hx hb dX4_ordersFor_38 rfl (lv_at hl 0 rfl) ?_
          obtain ⟨r8, hr9, hf⟩ := bnd hf
          refine wcalli (D := D) (cI := cI) (cZ := cZ) (cR := cR) (wc := (wd_X4_nextOrder cI cZ cR a_t a_t_first a_t_rank a_t_told a_t_beaten a_t_leads a_t_order t_count t_order_r)) (w' := (wd_X4_nextOrder cI cZ cR a_t a_t_first a_t_rank a_t_told a_t_beaten a_t_leads a_t_order t_count (r8.2))) [0, 3] hP hD hS hA rfl rfl rfl (rnV (As := []) (ci := 4) (q0 := 0) X [0, 3] hK hP hD rfl rfl rfl rfl (c_X4_nextOrder l D cI cZ cR hr9) (cwV 0 hts gX4_ordersFor_X4_nextOrder rfl rfl rfl (by decide +kernel) ⟨Nat.le_of_ble_eq_true rfl, Nat.le_of_ble_eq_true rfl⟩) rfl hl.1 rfl (Nat.le_of_ble_eq_true rfl) dX4_ordersFor_39) (fun H locs hP hD hS => ?_)
          have hP : va_P D vwCl (wd_X4_ordersFor cI cZ cR a_t a_t_first a_t_rank a_t_told a_t_beaten a_t_leads a_t_order t_count t_beaten_r (r5.2) (r8.2)) H := hP
          have hD : va_D A (wd_X4_ordersFor cI cZ cR a_t a_t_first a_t_rank a_t_told a_t_beaten a_t_leads a_t_order t_count t_beaten_r (r5.2) (r8.2)) := hD
          refine lv_istore (lv' := [(5, .int (r8.1)), (0, .ref a_t), (1, .int x1), (3, .int x3), (4, .int x4), (6, .int x6)]) hx hb dX4_ordersFor_42 hl (by decide) rfl (fun ls hl => ?_)
          refine lv_iinc (v := (x6 + (1 : Int32))) (lv' := [(6, .int (x6 + (1 : Int32))), (5, .int (r8.1)), (0, .ref a_t), (1, .int x1), (3, .int x3), (4, .int x4)]) hx hb dX4_ordersFor_44 hl (k := 5) rfl rfl (by decide) rfl (fun ls hl => ?_)
          refine lv_goto (tgt := 13) hx hb dX4_ordersFor_47 (by decide) ?_
          exact ih x4 (r8.1) (x6 + (1 : Int32)) t_count (r5.2) (r8.2) hf _ _ hP hD hS _ (lv_sub hl [2, 3, 4, 5, 1, 0] rfl)
        · have hf := ipos c7 hf
          refine lv_iinc (v := (x4 + (1 : Int32))) (lv' := [(4, .int (x4 + (1 : Int32))), (0, .ref a_t), (1, .int x1), (3, .int x3), (5, .int x5), (6, .int x6)]) hx hb dX4_ordersFor_35 hl (k := 3) rfl rfl (by decide) rfl (fun ls hl => ?_)
          refine lv_aload_n hx hb dX4_ordersFor_38 rfl (lv_at hl 1 rfl) ?_
          obtain ⟨r10, hr11, hf⟩ := bnd hf
          refine wcalli (D := D) (cI := cI) (cZ := cZ) (cR := cR) (wc := (wd_X4_nextOrder cI cZ cR a_t a_t_first a_t_rank a_t_told a_t_beaten a_t_leads a_t_order t_count t_order_r)) (w' := (wd_X4_nextOrder cI cZ cR a_t a_t_first a_t_rank a_t_told a_t_beaten a_t_leads a_t_order t_count (r10.2))) [0, 3] hP hD hS hA rfl rfl rfl (rnV (As := []) (ci := 4) (q0 := 0) X [0, 3] hK hP hD rfl rfl rfl rfl (c_X4_nextOrder l D cI cZ cR hr11) (cwV 0 hts gX4_ordersFor_X4_nextOrder rfl rfl rfl (by decide +kernel) ⟨Nat.le_of_ble_eq_true rfl, Nat.le_of_ble_eq_true rfl⟩) rfl hl.1 rfl (Nat.le_of_ble_eq_true rfl) dX4_ordersFor_39) (fun H locs hP hD hS => ?_)
          have hP : va_P D vwCl (wd_X4_ordersFor cI cZ cR a_t a_t_first a_t_rank a_t_told a_t_beaten a_t_leads a_t_order t_count t_beaten_r (r5.2) (r10.2)) H := hP
          have hD : va_D A (wd_X4_ordersFor cI cZ cR a_t a_t_first a_t_rank a_t_told a_t_beaten a_t_leads a_t_order t_count t_beaten_r (r5.2) (r10.2)) := hD
          refine lv_istore (lv' := [(5, .int (r10.1)), (4, .int (x4 + (1 : Int32))), (0, .ref a_t), (1, .int x1), (3, .int x3), (6, .int x6)]) hx hb dX4_ordersFor_42 hl (by decide) rfl (fun ls hl => ?_)
          refine lv_iinc (v := (x6 + (1 : Int32))) (lv' := [(6, .int (x6 + (1 : Int32))), (5, .int (r10.1)), (4, .int (x4 + (1 : Int32))), (0, .ref a_t), (1, .int x1), (3, .int x3)]) hx hb dX4_ordersFor_44 hl (k := 5) rfl rfl (by decide) rfl (fun ls hl => ?_)
          refine lv_goto (tgt := 13) hx hb dX4_ordersFor_47 (by decide) ?_
          exact ih (x4 + (1 : Int32)) (r10.1) (x6 + (1 : Int32)) t_count (r5.2) (r10.2) hf _ _ hP hD hS _ (lv_sub hl [3, 4, 5, 2, 1, 0] rfl)
set_option maxHeartbeats 4000000 in
set_option maxRecDepth 100000 in
theorem c_X4_ordersFor (l : Launch) (D : va_G) (cI cZ cR : ClassId) {a_t a_t_first a_t_rank a_t_told a_t_beaten a_t_leads a_t_order : Nat} {t_count : Int32} {t_beaten_r : Nat → Int32} {t_leads_r : Nat → Int32} {t_order_r : Nat → Int32} {x1 : Int32} {x2 : Int32} {x3 : Int32} {sz : Nat} {out : Int32 × Int32 × (Nat → Int32) × (Nat → Int32)} (hf : F_X4_ordersFor x1 x2 x3 t_count t_beaten_r t_leads_r t_order_r = some out) : CI l yX4_ordersFor wsX4_ordersFor ({ frames := 4, cells := 0, slots := 0, locals := 87 } : Room) D cI cZ cR [.ref a_t, .int x1, .int x2, .int x3] (wd_X4_ordersFor cI cZ cR a_t a_t_first a_t_rank a_t_told a_t_beaten a_t_leads a_t_order t_count t_beaten_r t_leads_r t_order_r) sz (out.1) (wd_X4_ordersFor cI cZ cR a_t a_t_first a_t_rank a_t_told a_t_beaten a_t_leads a_t_order (out.2.1) t_beaten_r (out.2.2.1) (out.2.2.2)) := by
  refine met_of (Qf := fun A => qi D cI cZ cR A (out.1) (wd_X4_ordersFor cI cZ cR a_t a_t_first a_t_rank a_t_told a_t_beaten a_t_leads a_t_order (out.2.1) t_beaten_r (out.2.2.1) (out.2.2.2))) RX4 (by decide +kernel) rfl rfl (Nat.le_of_ble_eq_true rfl) ?_
  intro p e s m below meth c A X hK hA hP hD hS ls hl
  have hl : lv_has ls 7 [(0, .ref a_t), (1, .int x1), (2, .int x2), (3, .int x3)] := hl
  obtain ⟨hx, hb, hml, hr, hown, hts, hlocks, hN⟩ := id X
  unfold F_X4_ordersFor at hf
  refine lv_iconst (v := (0 : Int32)) hx hb dX4_ordersFor_0 (by decide) ?_
  refine lv_istore (lv' := [(4, .int (0 : Int32)), (0, .ref a_t), (1, .int x1), (2, .int x2), (3, .int x3)]) hx hb dX4_ordersFor_1 hl (by decide) rfl (fun ls hl => ?_)
  refine lv_aload_n hx hb dX4_ordersFor_3 rfl (lv_at hl 1 rfl) ?_
  refine lv_iload_n hx hb dX4_ordersFor_4 rfl (lv_at hl 3 rfl) ?_
  obtain ⟨r1, hr2, hf⟩ := bnd hf
  refine wcalli (D := D) (cI := cI) (cZ := cZ) (cR := cR) (wc := (wd_X4_firstOrder cI cZ cR a_t a_t_first a_t_rank a_t_told a_t_beaten a_t_leads a_t_order t_count t_order_r)) (w' := (wd_X4_firstOrder cI cZ cR a_t a_t_first a_t_rank a_t_told a_t_beaten a_t_leads a_t_order (r1.2.1) (r1.2.2))) [0, 3] hP hD hS hA rfl rfl rfl (rnV (As := [.int x2]) (ci := 4) (q0 := 0) X [0, 3] hK hP hD rfl rfl rfl rfl (c_X4_firstOrder l D cI cZ cR hr2) (cwV 1 hts gX4_ordersFor_X4_firstOrder rfl rfl rfl (by decide +kernel) ⟨Nat.le_of_ble_eq_true rfl, Nat.le_of_ble_eq_true rfl⟩) rfl hl.1 rfl (Nat.le_of_ble_eq_true rfl) dX4_ordersFor_5) (fun H locs hP hD hS => ?_)
  have hP : va_P D vwCl (wd_X4_ordersFor cI cZ cR a_t a_t_first a_t_rank a_t_told a_t_beaten a_t_leads a_t_order (r1.2.1) t_beaten_r t_leads_r (r1.2.2)) H := hP
  have hD : va_D A (wd_X4_ordersFor cI cZ cR a_t a_t_first a_t_rank a_t_told a_t_beaten a_t_leads a_t_order (r1.2.1) t_beaten_r t_leads_r (r1.2.2)) := hD
  refine lv_istore (lv' := [(5, .int (r1.1)), (4, .int (0 : Int32)), (0, .ref a_t), (1, .int x1), (2, .int x2), (3, .int x3)]) hx hb dX4_ordersFor_8 hl (by decide) rfl (fun ls hl => ?_)
  refine lv_iconst (v := (0 : Int32)) hx hb dX4_ordersFor_10 (by decide) ?_
  refine lv_istore (lv' := [(6, .int (0 : Int32)), (5, .int (r1.1)), (4, .int (0 : Int32)), (0, .ref a_t), (1, .int x1), (2, .int x2), (3, .int x3)]) hx hb dX4_ordersFor_11 hl (by decide) rfl (fun ls hl => ?_)
  exact w_X4_ordersFor_13 X hK hA _ (0 : Int32) (r1.1) (0 : Int32) (r1.2.1) t_leads_r (r1.2.2) hf _ _ hP hD hS _ (lv_sub hl [3, 4, 6, 2, 1, 0] rfl)

abbrev wd_X4_firstFor (cI cZ cR : ClassId) (a_t a_t_first a_t_rank a_t_told a_t_beaten a_t_leads a_t_order : Nat) (t_count : Int32) (t_beaten_r : Nat → Int32) (t_leads_r : Nat → Int32) (t_order_r : Nat → Int32) : va_W := [(a_t, oB 4 [.ref a_t_first, .ref a_t_rank, .ref a_t_told, .ref a_t_beaten, .ref a_t_leads, .ref a_t_order, .int t_count]), (a_t_beaten, aI cI 6 t_beaten_r), (a_t_leads, aI cI 6 t_leads_r), (a_t_order, aI cI 6 t_order_r)]
set_option maxHeartbeats 4000000 in
set_option maxRecDepth 100000 in
theorem w_X4_firstFor_10 {p : Program} {l : Launch} {e : Env} {s : State} {m : MethodId} {args : Array Value} {below : List Frame} {meth : Method} {c : Code} {D : va_G} {cI cZ cR : ClassId} {A : Nat → Prop} {a_t a_t_first a_t_rank a_t_told a_t_beaten a_t_leads a_t_order : Nat} {t_beaten_r : Nat → Int32} {x1 : Int32} {x3 : Int32} {out : Int32 × Int32 × (Nat → Int32) × (Nat → Int32)} (X : cx p s m args meth c cX4_firstFor 6 (some .int) RX4 wsX4_firstFor) (hK : va_K D vwCl (ty3 cI cZ cR) s) (hA : ∀ q, s.heap.size ≤ q → A q) : ∀ (n : Nat) (x4 : Int32) (x5 : Int32) (t_count : Int32) (t_leads_r : Nat → Int32) (t_order_r : Nat → Int32), F_X4_firstFor_10 x1 x3 t_beaten_r n x4 x5 t_count t_leads_r t_order_r = some out → ∀ (H : Heap) (locs : List Loc), va_P D vwCl (wd_X4_firstFor cI cZ cR a_t a_t_first a_t_rank a_t_told a_t_beaten a_t_leads a_t_order t_count t_beaten_r t_leads_r t_order_r) H → va_D A (wd_X4_firstFor cI cZ cR a_t a_t_first a_t_rank a_t_told a_t_beaten a_t_leads a_t_order t_count t_beaten_r t_leads_r t_order_r) → va_S A s.heap H locs → ∀ (ls : Array Slot), lv_has ls 6 [(0, .ref a_t), (1, .int x1), (3, .int x3), (4, .int x4), (5, .int x5)] → W p l e (headSpec wsX4_firstFor ({ frames := 4, cells := 0, slots := 0, locals := 87 } : Room)).room s m args below meth c H locs 0 0 (MQ below (qi D cI cZ cR A (out.1) (wd_X4_firstFor cI cZ cR a_t a_t_first a_t_rank a_t_told a_t_beaten a_t_leads a_t_order (out.2.1) t_beaten_r (out.2.2.1) (out.2.2.2))) args s 0 0 A) (F0 m 10 ls []) := by
  obtain ⟨hx, hb, hml, hr, hown, hts, hlocks, hN⟩ := id X
  intro n
  induction n with
  | zero =>
    intro x4 x5 t_count t_leads_r t_order_r hf
    cases (show (none : Option (Int32 × Int32 × (Nat → Int32) × (Nat → Int32))) = some out from hf)
  | succ n ih =>
    intro x4 x5 t_count t_leads_r t_order_r hf H locs hP hD hS ls hl
    rw [F_X4_firstFor_10] at hf
    refine lv_iload hx hb dX4_firstFor_10 (lv_at hl 4 rfl) ?_
    refine lv_sipush (v := (720 : Int32)) hx hb dX4_firstFor_12 (by decide) ?_
    refine lv_icmp_ge (tgt := 49) hx hb dX4_firstFor_15 (by decide) (fun c3 => ?_) (fun c3 => ?_)
    · have hf := ipos c3 hf
      refine lv_iconst (v := (-1 : Int32)) hx hb dX4_firstFor_49 (by decide) ?_
      cases hf
      exact reti X hK hP hD hS dX4_firstFor_50
    · have hf := ineg c3 hf
      refine lv_iload hx hb dX4_firstFor_18 (lv_at hl 3 rfl) ?_
      refine lv_if_eq (tgt := 49) hx hb dX4_firstFor_20 (by decide) (fun c4 => ?_) (fun c4 => ?_)
      · have hf := ipos c4 hf
        refine lv_iconst (v := (-1 : Int32)) hx hb dX4_firstFor_49 (by decide) ?_
        cases hf
        exact reti X hK hP hD hS dX4_firstFor_50
      · have hf := ineg c4 hf
        refine lv_aload_n hx hb dX4_firstFor_23 rfl (lv_at hl 0 rfl) ?_
        refine lv_iload_n hx hb dX4_firstFor_24 rfl (lv_at hl 2 rfl) ?_
        obtain ⟨r5, hr6, hf⟩ := bnd hf
        refine wcalliA (D := D) (cI := cI) (cZ := cZ) (cR := cR) (wc := (wd_X4_outcome cI cZ cR a_t a_t_first a_t_rank a_t_told a_t_beaten a_t_leads a_t_order t_count t_beaten_r t_leads_r t_order_r)) (w' := (wd_X4_outcome cI cZ cR a_t a_t_first a_t_rank a_t_told a_t_beaten a_t_leads a_t_order t_count t_beaten_r (r5.2) t_order_r)) hP hD hS hA rfl (rnVA (As := [.int x3]) (ci := 4) (q0 := 0) X hK hP hD rfl rfl (c_X4_outcome l D cI cZ cR hr6) (cwV 1 hts gX4_firstFor_X4_outcome rfl rfl rfl (by decide +kernel) ⟨Nat.le_of_ble_eq_true rfl, Nat.le_of_ble_eq_true rfl⟩) rfl hl.1 rfl (Nat.le_of_ble_eq_true rfl) dX4_firstFor_25) (fun H locs hP hD hS => ?_)
        have hP : va_P D vwCl (wd_X4_firstFor cI cZ cR a_t a_t_first a_t_rank a_t_told a_t_beaten a_t_leads a_t_order t_count t_beaten_r (r5.2) t_order_r) H := hP
        have hD : va_D A (wd_X4_firstFor cI cZ cR a_t a_t_first a_t_rank a_t_told a_t_beaten a_t_leads a_t_order t_count t_beaten_r (r5.2) t_order_r) := hD
        refine lv_iload_n hx hb dX4_firstFor_28 rfl (lv_at hl 1 rfl) ?_
        refine lv_icmp_ne (tgt := 37) hx hb dX4_firstFor_29 (by decide) (fun c7 => ?_) (fun c7 => ?_)
        · have hf := ineg c7 hf
          refine lv_aload_n hx hb dX4_firstFor_37 rfl (lv_at hl 0 rfl) ?_
          obtain ⟨r8, hr9, hf⟩ := bnd hf
          refine wcalli (D := D) (cI := cI) (cZ := cZ) (cR := cR) (wc := (wd_X4_nextOrder cI cZ cR a_t a_t_first a_t_rank a_t_told a_t_beaten a_t_leads a_t_order t_count t_order_r)) (w' := (wd_X4_nextOrder cI cZ cR a_t a_t_first a_t_rank a_t_told a_t_beaten a_t_leads a_t_order t_count (r8.2))) [0, 3] hP hD hS hA rfl rfl rfl (rnV (As := []) (ci := 4) (q0 := 0) X [0, 3] hK hP hD rfl rfl rfl rfl (c_X4_nextOrder l D cI cZ cR hr9) (cwV 0 hts gX4_firstFor_X4_nextOrder rfl rfl rfl (by decide +kernel) ⟨Nat.le_of_ble_eq_true rfl, Nat.le_of_ble_eq_true rfl⟩) rfl hl.1 rfl (Nat.le_of_ble_eq_true rfl) dX4_firstFor_38) (fun H locs hP hD hS => ?_)
          have hP : va_P D vwCl (wd_X4_firstFor cI cZ cR a_t a_t_first a_t_rank a_t_told a_t_beaten a_t_leads a_t_order t_count t_beaten_r (r5.2) (r8.2)) H := hP
          have hD : va_D A (wd_X4_firstFor cI cZ cR a_t a_t_first a_t_rank a_t_told a_t_beaten a_t_leads a_t_order t_count t_beaten_r (r5.2) (r8.2)) := hD
          refine lv_istore (lv' := [(4, .int (r8.1)), (0, .ref a_t), (1, .int x1), (3, .int x3), (5, .int x5)]) hx hb dX4_firstFor_41 hl (by decide) rfl (fun ls hl => ?_)
          refine lv_iinc (v := (x5 + (1 : Int32))) (lv' := [(5, .int (x5 + (1 : Int32))), (4, .int (r8.1)), (0, .ref a_t), (1, .int x1), (3, .int x3)]) hx hb dX4_firstFor_43 hl (k := 4) rfl rfl (by decide) rfl (fun ls hl => ?_)
          refine lv_goto (tgt := 10) hx hb dX4_firstFor_46 (by decide) ?_
          exact ih (r8.1) (x5 + (1 : Int32)) t_count (r5.2) (r8.2) hf _ _ hP hD hS _ (lv_sub hl [2, 3, 4, 1, 0] rfl)
        · have hf := ipos c7 hf
          refine lv_aload_n hx hb dX4_firstFor_32 rfl (lv_at hl 0 rfl) ?_
          obtain ⟨r10, hr11, hf⟩ := bnd hf
          refine wcalli (D := D) (cI := cI) (cZ := cZ) (cR := cR) (wc := (wd_X4_toDigits cI cZ cR a_t a_t_first a_t_rank a_t_told a_t_beaten a_t_leads a_t_order t_count t_order_r)) (w' := (wd_X4_toDigits cI cZ cR a_t a_t_first a_t_rank a_t_told a_t_beaten a_t_leads a_t_order t_count t_order_r)) [0, 3] hP hD hS hA rfl rfl rfl (rnV (As := []) (ci := 4) (q0 := 0) X [0, 3] hK hP hD rfl rfl rfl rfl (c_X4_toDigits l D cI cZ cR hr11) (cwV 0 hts gX4_firstFor_X4_toDigits rfl rfl rfl (by decide +kernel) ⟨Nat.le_of_ble_eq_true rfl, Nat.le_of_ble_eq_true rfl⟩) rfl hl.1 rfl (Nat.le_of_ble_eq_true rfl) dX4_firstFor_33) (fun H locs hP hD hS => ?_)
          have hP : va_P D vwCl (wd_X4_firstFor cI cZ cR a_t a_t_first a_t_rank a_t_told a_t_beaten a_t_leads a_t_order t_count t_beaten_r (r5.2) t_order_r) H := hP
          have hD : va_D A (wd_X4_firstFor cI cZ cR a_t a_t_first a_t_rank a_t_told a_t_beaten a_t_leads a_t_order t_count t_beaten_r (r5.2) t_order_r) := hD
          cases hf
          exact reti X hK hP hD hS dX4_firstFor_36
set_option maxHeartbeats 4000000 in
set_option maxRecDepth 100000 in
theorem c_X4_firstFor (l : Launch) (D : va_G) (cI cZ cR : ClassId) {a_t a_t_first a_t_rank a_t_told a_t_beaten a_t_leads a_t_order : Nat} {t_count : Int32} {t_beaten_r : Nat → Int32} {t_leads_r : Nat → Int32} {t_order_r : Nat → Int32} {x1 : Int32} {x2 : Int32} {x3 : Int32} {sz : Nat} {out : Int32 × Int32 × (Nat → Int32) × (Nat → Int32)} (hf : F_X4_firstFor x1 x2 x3 t_count t_beaten_r t_leads_r t_order_r = some out) : CI l yX4_firstFor wsX4_firstFor ({ frames := 4, cells := 0, slots := 0, locals := 87 } : Room) D cI cZ cR [.ref a_t, .int x1, .int x2, .int x3] (wd_X4_firstFor cI cZ cR a_t a_t_first a_t_rank a_t_told a_t_beaten a_t_leads a_t_order t_count t_beaten_r t_leads_r t_order_r) sz (out.1) (wd_X4_firstFor cI cZ cR a_t a_t_first a_t_rank a_t_told a_t_beaten a_t_leads a_t_order (out.2.1) t_beaten_r (out.2.2.1) (out.2.2.2)) := by
  refine met_of (Qf := fun A => qi D cI cZ cR A (out.1) (wd_X4_firstFor cI cZ cR a_t a_t_first a_t_rank a_t_told a_t_beaten a_t_leads a_t_order (out.2.1) t_beaten_r (out.2.2.1) (out.2.2.2))) RX4 (by decide +kernel) rfl rfl (Nat.le_of_ble_eq_true rfl) ?_
  intro p e s m below meth c A X hK hA hP hD hS ls hl
  have hl : lv_has ls 6 [(0, .ref a_t), (1, .int x1), (2, .int x2), (3, .int x3)] := hl
  obtain ⟨hx, hb, hml, hr, hown, hts, hlocks, hN⟩ := id X
  unfold F_X4_firstFor at hf
  refine lv_aload_n hx hb dX4_firstFor_0 rfl (lv_at hl 0 rfl) ?_
  refine lv_iload_n hx hb dX4_firstFor_1 rfl (lv_at hl 2 rfl) ?_
  obtain ⟨r1, hr2, hf⟩ := bnd hf
  refine wcalli (D := D) (cI := cI) (cZ := cZ) (cR := cR) (wc := (wd_X4_firstOrder cI cZ cR a_t a_t_first a_t_rank a_t_told a_t_beaten a_t_leads a_t_order t_count t_order_r)) (w' := (wd_X4_firstOrder cI cZ cR a_t a_t_first a_t_rank a_t_told a_t_beaten a_t_leads a_t_order (r1.2.1) (r1.2.2))) [0, 3] hP hD hS hA rfl rfl rfl (rnV (As := [.int x2]) (ci := 4) (q0 := 0) X [0, 3] hK hP hD rfl rfl rfl rfl (c_X4_firstOrder l D cI cZ cR hr2) (cwV 1 hts gX4_firstFor_X4_firstOrder rfl rfl rfl (by decide +kernel) ⟨Nat.le_of_ble_eq_true rfl, Nat.le_of_ble_eq_true rfl⟩) rfl hl.1 rfl (Nat.le_of_ble_eq_true rfl) dX4_firstFor_2) (fun H locs hP hD hS => ?_)
  have hP : va_P D vwCl (wd_X4_firstFor cI cZ cR a_t a_t_first a_t_rank a_t_told a_t_beaten a_t_leads a_t_order (r1.2.1) t_beaten_r t_leads_r (r1.2.2)) H := hP
  have hD : va_D A (wd_X4_firstFor cI cZ cR a_t a_t_first a_t_rank a_t_told a_t_beaten a_t_leads a_t_order (r1.2.1) t_beaten_r t_leads_r (r1.2.2)) := hD
  refine lv_istore (lv' := [(4, .int (r1.1)), (0, .ref a_t), (1, .int x1), (2, .int x2), (3, .int x3)]) hx hb dX4_firstFor_5 hl (by decide) rfl (fun ls hl => ?_)
  refine lv_iconst (v := (0 : Int32)) hx hb dX4_firstFor_7 (by decide) ?_
  refine lv_istore (lv' := [(5, .int (0 : Int32)), (4, .int (r1.1)), (0, .ref a_t), (1, .int x1), (2, .int x2), (3, .int x3)]) hx hb dX4_firstFor_8 hl (by decide) rfl (fun ls hl => ?_)
  exact w_X4_firstFor_10 X hK hA _ (r1.1) (0 : Int32) (r1.2.1) t_leads_r (r1.2.2) hf _ _ hP hD hS _ (lv_sub hl [2, 3, 5, 1, 0] rfl)
