abbrev wd_X4_beatsAll (cI cZ cR : ClassId) (a_t a_t_first a_t_rank a_t_told a_t_beaten a_t_leads a_t_order : Nat) (t_count : Int32) (t_beaten_r : Nat → Int32) : va_W := [(a_t, oB 4 [.ref a_t_first, .ref a_t_rank, .ref a_t_told, .ref a_t_beaten, .ref a_t_leads, .ref a_t_order, .int t_count]), (a_t_beaten, aI cI 6 t_beaten_r)]
set_option maxRecDepth 100000 in
theorem in_X4_beatsAll_X4 : ∀ w ∈ wsX40, w ∈ wsX4_beatsAll := by decide +kernel
set_option maxHeartbeats 4000000 in
set_option maxRecDepth 100000 in
theorem w_X4_beatsAll_2 {p : Program} {l : Launch} {e : Env} {s : State} {m : MethodId} {args : Array Value} {below : List Frame} {meth : Method} {c : Code} {D : va_G} {cI cZ cR : ClassId} {A : Nat → Prop} {a_t a_t_first a_t_rank a_t_told a_t_beaten a_t_leads a_t_order : Nat} {t_count : Int32} {t_beaten_r : Nat → Int32} {x1 : Int32} {out : Int32} (X : cx p s m args meth c cX4_beatsAll 3 (some .int) RX4 wsX4_beatsAll) (hK : va_K D vwCl (ty3 cI cZ cR) s) (hA : ∀ q, s.heap.size ≤ q → A q) : ∀ (n : Nat) (x2 : Int32), F_X4_beatsAll_2 x1 t_beaten_r n x2 = some out → ∀ (H : Heap) (locs : List Loc), va_P D vwCl (wd_X4_beatsAll cI cZ cR a_t a_t_first a_t_rank a_t_told a_t_beaten a_t_leads a_t_order t_count t_beaten_r) H → va_D A (wd_X4_beatsAll cI cZ cR a_t a_t_first a_t_rank a_t_told a_t_beaten a_t_leads a_t_order t_count t_beaten_r) → va_S A s.heap H locs → ∀ (ls : Array Slot), lv_has ls 3 [(0, .ref a_t), (1, .int x1), (2, .int x2)] → W p l e (headSpec wsX4_beatsAll ({ frames := 1, cells := 0, slots := 0, locals := 21 } : Room)).room s m args below meth c H locs 0 0 (MQ below (qi D cI cZ cR A (out) (wd_X4_beatsAll cI cZ cR a_t a_t_first a_t_rank a_t_told a_t_beaten a_t_leads a_t_order t_count t_beaten_r)) args s 0 0 A) (F0 m 2 ls []) := by
  obtain ⟨hx, hb, hml, hr, hown, hts, hlocks, hN⟩ := id X
  intro n
  induction n with
  | zero =>
    intro x2 hf
    cases (show (none : Option (Int32)) = some out from hf)
  | succ n ih =>
    intro x2 hf H locs hP hD hS ls hl
    rw [F_X4_beatsAll_2] at hf
    refine lv_iload_n hx hb dX4_beatsAll_2 rfl (lv_at hl 2 rfl) ?_
    refine lv_bipush (v := (6 : Int32)) hx hb dX4_beatsAll_3 (by decide) ?_
    refine lv_icmp_ge (tgt := 43) hx hb dX4_beatsAll_5 (by decide) (fun c1 => ?_) (fun c1 => ?_)
    · have hf := ipos c1 hf
      refine lv_iconst (v := (-1 : Int32)) hx hb dX4_beatsAll_43 (by decide) ?_
      cases hf
      exact reti X hK hP hD hS dX4_beatsAll_44
    · have hf := ineg c1 hf
      refine lv_iload_n hx hb dX4_beatsAll_8 rfl (lv_at hl 1 rfl) ?_
      refine lv_iload_n hx hb dX4_beatsAll_9 rfl (lv_at hl 2 rfl) ?_
      obtain ⟨r2, hr3, hf⟩ := bnd hf
      refine wcalli (D := D) (cI := cI) (cZ := cZ) (cR := cR) (wc := (wd_X11_has cI cZ cR)) (w' := (wd_X11_has cI cZ cR)) [] hP hD hS hA rfl rfl rfl (rnSN (As := [.int x1, .int x2]) X [] hK hP hD rfl rfl (c_X11_has l D cI cZ cR hr3) ⟨va_cnB (host := "DivisionHall") 2 hts ggX4_beatsAll_X11_has rfl rfl rfl (hN.2.1 ("DivisionHall$Motions", 40, yX11_has, "DivisionHall") (by decide +kernel)) (hts (.initialized RX11) (by decide +kernel)) (by decide +kernel) ⟨Nat.le_of_ble_eq_true rfl, Nat.le_of_ble_eq_true rfl⟩, hts (.static yX11_has) (by decide +kernel), trivial⟩ rfl hl.1 rfl (Nat.le_of_ble_eq_true rfl) dX4_beatsAll_10) (fun H locs hP hD hS => ?_)
      have hP : va_P D vwCl (wd_X4_beatsAll cI cZ cR a_t a_t_first a_t_rank a_t_told a_t_beaten a_t_leads a_t_order t_count t_beaten_r) H := hP
      have hD : va_D A (wd_X4_beatsAll cI cZ cR a_t a_t_first a_t_rank a_t_told a_t_beaten a_t_leads a_t_order t_count t_beaten_r) := hD
      refine lv_if_eq (tgt := 37) hx hb dX4_beatsAll_13 (by decide) (fun c4 => ?_) (fun c4 => ?_)
      · have hf := ipos c4 hf
        refine lv_iinc (v := (x2 + (1 : Int32))) (lv' := [(2, .int (x2 + (1 : Int32))), (0, .ref a_t), (1, .int x1)]) hx hb dX4_beatsAll_37 hl (k := 2) rfl rfl (by decide) rfl (fun ls hl => ?_)
        refine lv_goto (tgt := 2) hx hb dX4_beatsAll_40 (by decide) ?_
        exact ih (x2 + (1 : Int32)) hf _ _ hP hD hS _ (lv_sub hl [1, 2, 0] rfl)
      · have hf := ineg c4 hf
        refine lv_iload_n hx hb dX4_beatsAll_16 rfl (lv_at hl 1 rfl) ?_
        refine lv_iconst (v := (1 : Int32)) hx hb dX4_beatsAll_17 (by decide) ?_
        refine lv_iload_n hx hb dX4_beatsAll_18 rfl (lv_at hl 2 rfl) ?_
        refine lv_ishl hx hb dX4_beatsAll_19 ?_
        refine lv_iconst (v := (-1 : Int32)) hx hb dX4_beatsAll_20 (by decide) ?_
        refine lv_ixor hx hb dX4_beatsAll_21 ?_
        refine lv_iand hx hb dX4_beatsAll_22 ?_
        refine lv_aload_n hx hb dX4_beatsAll_23 rfl (lv_at hl 0 rfl) ?_
        refine va_get (D := D) (ci := 4) (v := .ref a_t_beaten) (C := RX4) (T := TX4) (N := 7) hx hb hts in_X4_beatsAll_X4 hown hK hP 0 rfl rfl 3 (by decide) (hts (.fieldLink RX4 21 "DivisionHall$Motions" "beaten" "[I") (by decide +kernel)) (fun _ h9 => h9) rfl dX4_beatsAll_24 ?_
        refine lv_iload_n hx hb dX4_beatsAll_27 rfl (lv_at hl 2 rfl) ?_
        obtain ⟨hi5, hf⟩ := gin_s hf
        refine va_iald hx hb hK hP 1 0 rfl rfl hi5 dX4_beatsAll_28 ?_
        obtain ⟨r6, hr7, hf⟩ := bnd hf
        refine wcalli (D := D) (cI := cI) (cZ := cZ) (cR := cR) (wc := (wd_X11_isWithin cI cZ cR)) (w' := (wd_X11_isWithin cI cZ cR)) [] hP hD hS hA rfl rfl rfl (rnSN (As := [.int (x1 &&& (((1 : Int32) <<< (x2 &&& 31)) ^^^ (-1 : Int32))), .int (t_beaten_r (x2).toNatClampNeg)]) X [] hK hP hD rfl rfl (c_X11_isWithin l D cI cZ cR hr7) ⟨va_cnB (host := "DivisionHall") 2 hts ggX4_beatsAll_X11_isWithin rfl rfl rfl (hN.2.1 ("DivisionHall$Motions", 101, yX11_isWithin, "DivisionHall") (by decide +kernel)) (hts (.initialized RX11) (by decide +kernel)) (by decide +kernel) ⟨Nat.le_of_ble_eq_true rfl, Nat.le_of_ble_eq_true rfl⟩, hts (.static yX11_isWithin) (by decide +kernel), trivial⟩ rfl hl.1 rfl (Nat.le_of_ble_eq_true rfl) dX4_beatsAll_29) (fun H locs hP hD hS => ?_)
        have hP : va_P D vwCl (wd_X4_beatsAll cI cZ cR a_t a_t_first a_t_rank a_t_told a_t_beaten a_t_leads a_t_order t_count t_beaten_r) H := hP
        have hD : va_D A (wd_X4_beatsAll cI cZ cR a_t a_t_first a_t_rank a_t_told a_t_beaten a_t_leads a_t_order t_count t_beaten_r) := hD
        refine lv_if_eq (tgt := 37) hx hb dX4_beatsAll_32 (by decide) (fun c8 => ?_) (fun c8 => ?_)
        · have hf := ipos c8 hf
          refine lv_iinc (v := (x2 + (1 : Int32))) (lv' := [(2, .int (x2 + (1 : Int32))), (0, .ref a_t), (1, .int x1)]) hx hb dX4_beatsAll_37 hl (k := 2) rfl rfl (by decide) rfl (fun ls hl => ?_)
          refine lv_goto (tgt := 2) hx hb dX4_beatsAll_40 (by decide) ?_
          exact ih (x2 + (1 : Int32)) hf _ _ hP hD hS _ (lv_sub hl [1, 2, 0] rfl)
        · have hf := ineg c8 hf
          refine lv_iload_n hx hb dX4_beatsAll_35 rfl (lv_at hl 2 rfl) ?_
          cases hf
          exact reti X hK hP hD hS dX4_beatsAll_36
set_option maxHeartbeats 4000000 in
set_option maxRecDepth 100000 in
theorem c_X4_beatsAll (l : Launch) (D : va_G) (cI cZ cR : ClassId) {a_t a_t_first a_t_rank a_t_told a_t_beaten a_t_leads a_t_order : Nat} {t_count : Int32} {t_beaten_r : Nat → Int32} {x1 : Int32} {sz : Nat} {out : Int32} (hf : F_X4_beatsAll x1 t_beaten_r = some out) : CI l yX4_beatsAll wsX4_beatsAll ({ frames := 1, cells := 0, slots := 0, locals := 21 } : Room) D cI cZ cR [.ref a_t, .int x1] (wd_X4_beatsAll cI cZ cR a_t a_t_first a_t_rank a_t_told a_t_beaten a_t_leads a_t_order t_count t_beaten_r) sz (out) (wd_X4_beatsAll cI cZ cR a_t a_t_first a_t_rank a_t_told a_t_beaten a_t_leads a_t_order t_count t_beaten_r) := by
  refine met_of (Qf := fun A => qi D cI cZ cR A (out) (wd_X4_beatsAll cI cZ cR a_t a_t_first a_t_rank a_t_told a_t_beaten a_t_leads a_t_order t_count t_beaten_r)) RX4 (by decide +kernel) rfl rfl (Nat.le_of_ble_eq_true rfl) ?_
  intro p e s m below meth c A X hK hA hP hD hS ls hl
  have hl : lv_has ls 3 [(0, .ref a_t), (1, .int x1)] := hl
  obtain ⟨hx, hb, hml, hr, hown, hts, hlocks, hN⟩ := id X
  unfold F_X4_beatsAll at hf
  refine lv_iconst (v := (0 : Int32)) hx hb dX4_beatsAll_0 (by decide) ?_
  refine lv_istore_n (lv' := [(2, .int (0 : Int32)), (0, .ref a_t), (1, .int x1)]) hx hb dX4_beatsAll_1 rfl hl (by decide) rfl (fun ls hl => ?_)
  exact w_X4_beatsAll_2 X hK hA _ (0 : Int32) hf _ _ hP hD hS _ (lv_sub hl [1, 2, 0] rfl)
