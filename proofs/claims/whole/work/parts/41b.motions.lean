abbrev wd_X4_fromDigits (cI cZ cR : ClassId) (a_t a_t_first a_t_rank a_t_told a_t_beaten a_t_leads a_t_order : Nat) (t_count : Int32) (t_order_r : Nat → Int32) : va_W := [(a_t, oB 4 [.ref a_t_first, .ref a_t_rank, .ref a_t_told, .ref a_t_beaten, .ref a_t_leads, .ref a_t_order, .int t_count]), (a_t_order, aI cI 6 t_order_r)]
set_option maxRecDepth 100000 in
theorem in_X4_fromDigits_X4 : ∀ w ∈ wsX40, w ∈ wsX4_fromDigits := by decide +kernel
set_option maxHeartbeats 4000000 in
set_option maxRecDepth 100000 in
theorem w_X4_fromDigits_62 {p : Program} {l : Launch} {e : Env} {s : State} {m : MethodId} {args : Array Value} {below : List Frame} {meth : Method} {c : Code} {D : va_G} {cI cZ cR : ClassId} {A : Nat → Prop} {a_t a_t_first a_t_rank a_t_told a_t_beaten a_t_leads a_t_order : Nat} {out : Int32 × Int32 × (Nat → Int32)} (X : cx p s m args meth c cX4_fromDigits 8 (some .boolean) RX4 wsX4_fromDigits) (hK : va_K D vwCl (ty3 cI cZ cR) s) (hA : ∀ q, s.heap.size ≤ q → A q) : ∀ (n : Nat) (x4 : Int32) (x5 : Int32) (x6 : Int32) (t_count : Int32) (t_order_r : Nat → Int32), F_X4_fromDigits_62 n x4 x5 x6 t_count t_order_r = some out → ∀ (H : Heap) (locs : List Loc), va_P D vwCl (wd_X4_fromDigits cI cZ cR a_t a_t_first a_t_rank a_t_told a_t_beaten a_t_leads a_t_order t_count t_order_r) H → va_D A (wd_X4_fromDigits cI cZ cR a_t a_t_first a_t_rank a_t_told a_t_beaten a_t_leads a_t_order t_count t_order_r) → va_S A s.heap H locs → ∀ (ls : Array Slot), lv_has ls 8 [(0, .ref a_t), (4, .int x4), (5, .int x5), (6, .int x6)] → W p l e (headSpec wsX4_fromDigits ({ frames := 1, cells := 0, slots := 0, locals := 21 } : Room)).room s m args below meth c H locs 0 0 (MQ below (qi D cI cZ cR A (out.1) (wd_X4_fromDigits cI cZ cR a_t a_t_first a_t_rank a_t_told a_t_beaten a_t_leads a_t_order (out.2.1) (out.2.2))) args s 0 0 A) (F0 m 62 ls []) := by
  obtain ⟨hx, hb, hml, hr, hown, hts, hlocks, hN⟩ := id X
  intro n
  induction n with
  | zero =>
    intro x4 x5 x6 t_count t_order_r hf
    cases (show (none : Option (Int32 × Int32 × (Nat → Int32))) = some out from hf)
  | succ n ih =>
    intro x4 x5 x6 t_count t_order_r hf H locs hP hD hS ls hl
    rw [F_X4_fromDigits_62] at hf
    refine lv_iload hx hb dX4_fromDigits_62 (lv_at hl 3 rfl) ?_
    refine lv_if_lt (tgt := 134) hx hb dX4_fromDigits_64 (by decide) (fun c6 => ?_) (fun c6 => ?_)
    · have hf := ipos c6 hf
      refine lv_iconst (v := (1 : Int32)) hx hb dX4_fromDigits_134 (by decide) ?_
      cases hf
      exact retz (Or.inr rfl) X hK hP hD hS dX4_fromDigits_135
    · have hf := ineg c6 hf
      refine lv_iload hx hb dX4_fromDigits_67 (lv_at hl 3 rfl) ?_
      refine lv_bipush (v := (6 : Int32)) hx hb dX4_fromDigits_69 (by decide) ?_
      refine lv_icmp_ge (tgt := 134) hx hb dX4_fromDigits_71 (by decide) (fun c7 => ?_) (fun c7 => ?_)
      · have hf := ipos c7 hf
        refine lv_iconst (v := (1 : Int32)) hx hb dX4_fromDigits_134 (by decide) ?_
        cases hf
        exact retz (Or.inr rfl) X hK hP hD hS dX4_fromDigits_135
      · have hf := ineg c7 hf
        refine lv_iload hx hb dX4_fromDigits_74 (lv_at hl 2 rfl) ?_
        refine lv_bipush (v := (10 : Int32)) hx hb dX4_fromDigits_76 (by decide) ?_
        refine lv_irem hx hb dX4_fromDigits_78 (by decide) ?_
        refine lv_istore (lv' := [(7, .int (x5 - x5 / (10 : Int32) * (10 : Int32))), (0, .ref a_t), (4, .int x4), (5, .int x5), (6, .int x6)]) hx hb dX4_fromDigits_79 hl (by decide) rfl (fun ls hl => ?_)
        refine lv_iload hx hb dX4_fromDigits_81 (lv_at hl 3 rfl) ?_
        refine lv_bipush (v := (10 : Int32)) hx hb dX4_fromDigits_83 (by decide) ?_
        refine lv_idiv hx hb dX4_fromDigits_85 (by decide) ?_
        refine lv_istore (lv' := [(5, .int (x5 / (10 : Int32))), (7, .int (x5 - x5 / (10 : Int32) * (10 : Int32))), (0, .ref a_t), (4, .int x4), (6, .int x6)]) hx hb dX4_fromDigits_86 hl (by decide) rfl (fun ls hl => ?_)
        refine lv_iload hx hb dX4_fromDigits_88 (lv_at hl 1 rfl) ?_
        refine lv_bipush (v := (6 : Int32)) hx hb dX4_fromDigits_90 (by decide) ?_
        obtain ⟨r10, hr11, hf⟩ := bnd hf
        refine wcalli (D := D) (cI := cI) (cZ := cZ) (cR := cR) (wc := (wd_X11_inside cI cZ cR)) (w' := (wd_X11_inside cI cZ cR)) [] hP hD hS hA rfl rfl rfl (rnSN (As := [.int (x5 - x5 / (10 : Int32) * (10 : Int32)), .int (6 : Int32)]) X [] hK hP hD rfl rfl (c_X11_inside l D cI cZ cR hr11) ⟨va_cnB (host := "DivisionHall") 2 hts ggX4_fromDigits_X11_inside rfl rfl rfl (hN.2.1 ("DivisionHall$Motions", 36, yX11_inside, "DivisionHall") (by decide +kernel)) (hts (.initialized RX11) (by decide +kernel)) (by decide +kernel) ⟨Nat.le_of_ble_eq_true rfl, Nat.le_of_ble_eq_true rfl⟩, hts (.static yX11_inside) (by decide +kernel), trivial⟩ rfl hl.1 rfl (Nat.le_of_ble_eq_true rfl) dX4_fromDigits_92) (fun H locs hP hD hS => ?_)
        have hP : va_P D vwCl (wd_X4_fromDigits cI cZ cR a_t a_t_first a_t_rank a_t_told a_t_beaten a_t_leads a_t_order t_count t_order_r) H := hP
        have hD : va_D A (wd_X4_fromDigits cI cZ cR a_t a_t_first a_t_rank a_t_told a_t_beaten a_t_leads a_t_order t_count t_order_r) := hD
        refine lv_if_eq (tgt := 108) hx hb dX4_fromDigits_95 (by decide) (fun c12 => ?_) (fun c12 => ?_)
        · have hf := ipos c12 hf
          refine lv_iconst (v := (0 : Int32)) hx hb dX4_fromDigits_108 (by decide) ?_
          cases hf
          exact retz (Or.inl rfl) X hK hP hD hS dX4_fromDigits_109
        · have hf := ineg c12 hf
          refine lv_iload hx hb dX4_fromDigits_98 (lv_at hl 3 rfl) ?_
          refine lv_iload hx hb dX4_fromDigits_100 (lv_at hl 1 rfl) ?_
          obtain ⟨r13, hr14, hf⟩ := bnd hf
          refine wcalli (D := D) (cI := cI) (cZ := cZ) (cR := cR) (wc := (wd_X11_has cI cZ cR)) (w' := (wd_X11_has cI cZ cR)) [] hP hD hS hA rfl rfl rfl (rnSN (As := [.int x4, .int (x5 - x5 / (10 : Int32) * (10 : Int32))]) X [] hK hP hD rfl rfl (c_X11_has l D cI cZ cR hr14) ⟨va_cnB (host := "DivisionHall") 2 hts ggX4_fromDigits_X11_has rfl rfl rfl (hN.2.1 ("DivisionHall$Motions", 40, yX11_has, "DivisionHall") (by decide +kernel)) (hts (.initialized RX11) (by decide +kernel)) (by decide +kernel) ⟨Nat.le_of_ble_eq_true rfl, Nat.le_of_ble_eq_true rfl⟩, hts (.static yX11_has) (by decide +kernel), trivial⟩ rfl hl.1 rfl (Nat.le_of_ble_eq_true rfl) dX4_fromDigits_102) (fun H locs hP hD hS => ?_)
          have hP : va_P D vwCl (wd_X4_fromDigits cI cZ cR a_t a_t_first a_t_rank a_t_told a_t_beaten a_t_leads a_t_order t_count t_order_r) H := hP
          have hD : va_D A (wd_X4_fromDigits cI cZ cR a_t a_t_first a_t_rank a_t_told a_t_beaten a_t_leads a_t_order t_count t_order_r) := hD
          refine lv_if_eq (tgt := 110) hx hb dX4_fromDigits_105 (by decide) (fun c15 => ?_) (fun c15 => ?_)
          · have hf := ipos c15 hf
            refine lv_iload hx hb dX4_fromDigits_110 (lv_at hl 3 rfl) ?_
            refine lv_iconst (v := (1 : Int32)) hx hb dX4_fromDigits_112 (by decide) ?_
            refine lv_iload hx hb dX4_fromDigits_113 (lv_at hl 1 rfl) ?_
            refine lv_ishl hx hb dX4_fromDigits_115 ?_
            refine lv_ior hx hb dX4_fromDigits_116 ?_
            refine lv_istore (lv' := [(4, .int (x4 ||| ((1 : Int32) <<< ((x5 - x5 / (10 : Int32) * (10 : Int32)) &&& 31)))), (5, .int (x5 / (10 : Int32))), (7, .int (x5 - x5 / (10 : Int32) * (10 : Int32))), (0, .ref a_t), (6, .int x6)]) hx hb dX4_fromDigits_117 hl (by decide) rfl (fun ls hl => ?_)
            refine lv_aload_n hx hb dX4_fromDigits_119 rfl (lv_at hl 3 rfl) ?_
            refine va_get (D := D) (ci := 4) (v := .ref a_t_order) (C := RX4) (T := TX4) (N := 7) hx hb hts in_X4_fromDigits_X4 hown hK hP 0 rfl rfl 5 (by decide) (hts (.fieldLink RX4 27 "DivisionHall$Motions" "order" "[I") (by decide +kernel)) (fun _ h9 => h9) rfl dX4_fromDigits_120 ?_
            refine lv_iload hx hb dX4_fromDigits_123 (lv_at hl 4 rfl) ?_
            refine lv_iload hx hb dX4_fromDigits_125 (lv_at hl 2 rfl) ?_
            obtain ⟨hi16, hf⟩ := gin_s hf
            refine va_iast hx hb hK hP hD hS 1 0 rfl rfl hi16 dX4_fromDigits_127 (fun H locs hP hD hS => ?_)
            have hP : va_P D vwCl (wd_X4_fromDigits cI cZ cR a_t a_t_first a_t_rank a_t_told a_t_beaten a_t_leads a_t_order t_count (upd t_order_r (x6).toNatClampNeg (x5 - x5 / (10 : Int32) * (10 : Int32)))) H := hP
            have hD : va_D A (wd_X4_fromDigits cI cZ cR a_t a_t_first a_t_rank a_t_told a_t_beaten a_t_leads a_t_order t_count (upd t_order_r (x6).toNatClampNeg (x5 - x5 / (10 : Int32) * (10 : Int32)))) := hD
            refine lv_iinc (v := (x6 + (-1 : Int32))) (lv' := [(6, .int (x6 + (-1 : Int32))), (4, .int (x4 ||| ((1 : Int32) <<< ((x5 - x5 / (10 : Int32) * (10 : Int32)) &&& 31)))), (5, .int (x5 / (10 : Int32))), (7, .int (x5 - x5 / (10 : Int32) * (10 : Int32))), (0, .ref a_t)]) hx hb dX4_fromDigits_128 hl (k := 4) rfl rfl (by decide) rfl (fun ls hl => ?_)
            refine lv_goto (tgt := 62) hx hb dX4_fromDigits_131 (by decide) ?_
            exact ih (x4 ||| ((1 : Int32) <<< ((x5 - x5 / (10 : Int32) * (10 : Int32)) &&& 31))) (x5 / (10 : Int32)) (x6 + (-1 : Int32)) t_count (upd t_order_r (x6).toNatClampNeg (x5 - x5 / (10 : Int32) * (10 : Int32))) hf _ _ hP hD hS _ (lv_sub hl [4, 1, 2, 0] rfl)
          · have hf := ineg c15 hf
            refine lv_iconst (v := (0 : Int32)) hx hb dX4_fromDigits_108 (by decide) ?_
            cases hf
            exact retz (Or.inl rfl) X hK hP hD hS dX4_fromDigits_109
set_option maxHeartbeats 4000000 in
set_option maxRecDepth 100000 in
theorem w_X4_fromDigits_34 {p : Program} {l : Launch} {e : Env} {s : State} {m : MethodId} {args : Array Value} {below : List Frame} {meth : Method} {c : Code} {D : va_G} {cI cZ cR : ClassId} {A : Nat → Prop} {a_t a_t_first a_t_rank a_t_told a_t_beaten a_t_leads a_t_order : Nat} {x1 : Int32} {out : Int32 × Int32 × (Nat → Int32)} (X : cx p s m args meth c cX4_fromDigits 8 (some .boolean) RX4 wsX4_fromDigits) (hK : va_K D vwCl (ty3 cI cZ cR) s) (hA : ∀ q, s.heap.size ≤ q → A q) : ∀ (x2 : Int32) (x3 : Int32) (t_count : Int32) (t_order_r : Nat → Int32), F_X4_fromDigits_34 x1 x2 x3 t_count t_order_r = some out → ∀ (H : Heap) (locs : List Loc), va_P D vwCl (wd_X4_fromDigits cI cZ cR a_t a_t_first a_t_rank a_t_told a_t_beaten a_t_leads a_t_order t_count t_order_r) H → va_D A (wd_X4_fromDigits cI cZ cR a_t a_t_first a_t_rank a_t_told a_t_beaten a_t_leads a_t_order t_count t_order_r) → va_S A s.heap H locs → ∀ (ls : Array Slot), lv_has ls 8 [(0, .ref a_t), (1, .int x1), (2, .int x2), (3, .int x3)] → W p l e (headSpec wsX4_fromDigits ({ frames := 1, cells := 0, slots := 0, locals := 21 } : Room)).room s m args below meth c H locs 0 0 (MQ below (qi D cI cZ cR A (out.1) (wd_X4_fromDigits cI cZ cR a_t a_t_first a_t_rank a_t_told a_t_beaten a_t_leads a_t_order (out.2.1) (out.2.2))) args s 0 0 A) (F0 m 34 ls []) := by
  obtain ⟨hx, hb, hml, hr, hown, hts, hlocks, hN⟩ := id X
  intro x2 x3 t_count t_order_r hf H locs hP hD hS ls hl
  unfold F_X4_fromDigits_34 at hf
  refine lv_iload_n hx hb dX4_fromDigits_34 rfl (lv_at hl 3 rfl) ?_
  refine lv_bipush (v := (9 : Int32)) hx hb dX4_fromDigits_35 (by decide) ?_
  refine lv_icmp_ne (tgt := 44) hx hb dX4_fromDigits_37 (by decide) (fun c4 => ?_) (fun c4 => ?_)
  · have hf := ineg c4 hf
    refine lv_iconst (v := (0 : Int32)) hx hb dX4_fromDigits_44 (by decide) ?_
    cases hf
    exact retz (Or.inl rfl) X hK hP hD hS dX4_fromDigits_45
  · have hf := ipos c4 hf
    refine lv_iload_n hx hb dX4_fromDigits_40 rfl (lv_at hl 2 rfl) ?_
    refine lv_if_ne (tgt := 46) hx hb dX4_fromDigits_41 (by decide) (fun c5 => ?_) (fun c5 => ?_)
    · have hf := ineg c5 hf
      refine lv_aload_n hx hb dX4_fromDigits_46 rfl (lv_at hl 0 rfl) ?_
      refine lv_iload_n hx hb dX4_fromDigits_47 rfl (lv_at hl 2 rfl) ?_
      refine va_put (D := D) (ci := 4) (v := .int x2) (ty := .int) (C := RX4) (T := TX4) (N := 7) hx hb hts in_X4_fromDigits_X4 tyX4 tyX4_ok nmX4 hown hK hP hD hS 0 rfl rfl 6 (by decide) (hts (.fieldLink RX4 65 "DivisionHall$Motions" "count" "I") (by decide +kernel)) (fun _ h9 => h9) rfl (by decide +kernel) rfl rfl (Nat.le_of_ble_eq_true rfl) dX4_fromDigits_48 (fun H locs hP hD hS => ?_)
      have hP : va_P D vwCl (wd_X4_fromDigits cI cZ cR a_t a_t_first a_t_rank a_t_told a_t_beaten a_t_leads a_t_order x2 t_order_r) H := hP
      have hD : va_D A (wd_X4_fromDigits cI cZ cR a_t a_t_first a_t_rank a_t_told a_t_beaten a_t_leads a_t_order x2 t_order_r) := hD
      refine lv_iconst (v := (0 : Int32)) hx hb dX4_fromDigits_51 (by decide) ?_
      refine lv_istore (lv' := [(4, .int (0 : Int32)), (0, .ref a_t), (1, .int x1), (2, .int x2), (3, .int x3)]) hx hb dX4_fromDigits_52 hl (by decide) rfl (fun ls hl => ?_)
      refine lv_iload_n hx hb dX4_fromDigits_54 rfl (lv_at hl 2 rfl) ?_
      refine lv_istore (lv' := [(5, .int x1), (4, .int (0 : Int32)), (0, .ref a_t), (1, .int x1), (2, .int x2), (3, .int x3)]) hx hb dX4_fromDigits_55 hl (by decide) rfl (fun ls hl => ?_)
      refine lv_iload_n hx hb dX4_fromDigits_57 rfl (lv_at hl 4 rfl) ?_
      refine lv_iconst (v := (1 : Int32)) hx hb dX4_fromDigits_58 (by decide) ?_
      refine lv_isub hx hb dX4_fromDigits_59 ?_
      refine lv_istore (lv' := [(6, .int (x2 - (1 : Int32))), (5, .int x1), (4, .int (0 : Int32)), (0, .ref a_t), (1, .int x1), (2, .int x2), (3, .int x3)]) hx hb dX4_fromDigits_60 hl (by decide) rfl (fun ls hl => ?_)
      exact w_X4_fromDigits_62 X hK hA _ (0 : Int32) x1 (x2 - (1 : Int32)) x2 t_order_r hf _ _ hP hD hS _ (lv_sub hl [3, 2, 1, 0] rfl)
    · have hf := ipos c5 hf
      refine lv_iconst (v := (0 : Int32)) hx hb dX4_fromDigits_44 (by decide) ?_
      cases hf
      exact retz (Or.inl rfl) X hK hP hD hS dX4_fromDigits_45
set_option maxHeartbeats 4000000 in
set_option maxRecDepth 100000 in
theorem w_X4_fromDigits_7 {p : Program} {l : Launch} {e : Env} {s : State} {m : MethodId} {args : Array Value} {below : List Frame} {meth : Method} {c : Code} {D : va_G} {cI cZ cR : ClassId} {A : Nat → Prop} {a_t a_t_first a_t_rank a_t_told a_t_beaten a_t_leads a_t_order : Nat} {x1 : Int32} {out : Int32 × Int32 × (Nat → Int32)} (X : cx p s m args meth c cX4_fromDigits 8 (some .boolean) RX4 wsX4_fromDigits) (hK : va_K D vwCl (ty3 cI cZ cR) s) (hA : ∀ q, s.heap.size ≤ q → A q) : ∀ (n : Nat) (x2 : Int32) (x3 : Int32) (x4 : Int32) (t_count : Int32) (t_order_r : Nat → Int32), F_X4_fromDigits_7 x1 n x2 x3 x4 t_count t_order_r = some out → ∀ (H : Heap) (locs : List Loc), va_P D vwCl (wd_X4_fromDigits cI cZ cR a_t a_t_first a_t_rank a_t_told a_t_beaten a_t_leads a_t_order t_count t_order_r) H → va_D A (wd_X4_fromDigits cI cZ cR a_t a_t_first a_t_rank a_t_told a_t_beaten a_t_leads a_t_order t_count t_order_r) → va_S A s.heap H locs → ∀ (ls : Array Slot), lv_has ls 8 [(0, .ref a_t), (1, .int x1), (2, .int x2), (3, .int x3), (4, .int x4)] → W p l e (headSpec wsX4_fromDigits ({ frames := 1, cells := 0, slots := 0, locals := 21 } : Room)).room s m args below meth c H locs 0 0 (MQ below (qi D cI cZ cR A (out.1) (wd_X4_fromDigits cI cZ cR a_t a_t_first a_t_rank a_t_told a_t_beaten a_t_leads a_t_order (out.2.1) (out.2.2))) args s 0 0 A) (F0 m 7 ls []) := by
  obtain ⟨hx, hb, hml, hr, hown, hts, hlocks, hN⟩ := id X
  intro n
  induction n with
  | zero =>
    intro x2 x3 x4 t_count t_order_r hf
    cases (show (none : Option (Int32 × Int32 × (Nat → Int32))) = some out from hf)
  | succ n ih =>
    intro x2 x3 x4 t_count t_order_r hf H locs hP hD hS ls hl
    rw [F_X4_fromDigits_7] at hf
    refine lv_iload hx hb dX4_fromDigits_7 (lv_at hl 4 rfl) ?_
    refine lv_bipush (v := (6 : Int32)) hx hb dX4_fromDigits_9 (by decide) ?_
    refine lv_icmp_ge (tgt := 34) hx hb dX4_fromDigits_11 (by decide) (fun c1 => ?_) (fun c1 => ?_)
    · have hf := ipos c1 hf
      exact w_X4_fromDigits_34 X hK hA x2 x3 t_count t_order_r hf _ _ hP hD hS _ (lv_sub hl [0, 1, 2, 3] rfl)
    · have hf := ineg c1 hf
      refine lv_iload_n hx hb dX4_fromDigits_14 rfl (lv_at hl 3 rfl) ?_
      refine lv_bipush (v := (9 : Int32)) hx hb dX4_fromDigits_15 (by decide) ?_
      refine lv_icmp_le (tgt := 34) hx hb dX4_fromDigits_17 (by decide) (fun c2 => ?_) (fun c2 => ?_)
      · have hf := ipos c2 hf
        exact w_X4_fromDigits_34 X hK hA x2 x3 t_count t_order_r hf _ _ hP hD hS _ (lv_sub hl [0, 1, 2, 3] rfl)
      · have hf := ineg c2 hf
        refine lv_iload_n hx hb dX4_fromDigits_20 rfl (lv_at hl 3 rfl) ?_
        refine lv_bipush (v := (10 : Int32)) hx hb dX4_fromDigits_21 (by decide) ?_
        refine lv_idiv hx hb dX4_fromDigits_23 (by decide) ?_
        refine lv_istore_n (lv' := [(3, .int (x3 / (10 : Int32))), (0, .ref a_t), (1, .int x1), (2, .int x2), (4, .int x4)]) hx hb dX4_fromDigits_24 rfl hl (by decide) rfl (fun ls hl => ?_)
        refine lv_iinc (v := (x2 + (1 : Int32))) (lv' := [(2, .int (x2 + (1 : Int32))), (3, .int (x3 / (10 : Int32))), (0, .ref a_t), (1, .int x1), (4, .int x4)]) hx hb dX4_fromDigits_25 hl (k := 3) rfl rfl (by decide) rfl (fun ls hl => ?_)
        refine lv_iinc (v := (x4 + (1 : Int32))) (lv' := [(4, .int (x4 + (1 : Int32))), (2, .int (x2 + (1 : Int32))), (3, .int (x3 / (10 : Int32))), (0, .ref a_t), (1, .int x1)]) hx hb dX4_fromDigits_28 hl (k := 4) rfl rfl (by decide) rfl (fun ls hl => ?_)
        refine lv_goto (tgt := 7) hx hb dX4_fromDigits_31 (by decide) ?_
        exact ih (x2 + (1 : Int32)) (x3 / (10 : Int32)) (x4 + (1 : Int32)) t_count t_order_r hf _ _ hP hD hS _ (lv_sub hl [3, 4, 1, 2, 0] rfl)
set_option maxHeartbeats 4000000 in
set_option maxRecDepth 100000 in
theorem c_X4_fromDigits (l : Launch) (D : va_G) (cI cZ cR : ClassId) {a_t a_t_first a_t_rank a_t_told a_t_beaten a_t_leads a_t_order : Nat} {t_count : Int32} {t_order_r : Nat → Int32} {x1 : Int32} {sz : Nat} {out : Int32 × Int32 × (Nat → Int32)} (hf : F_X4_fromDigits x1 t_count t_order_r = some out) : CI l yX4_fromDigits wsX4_fromDigits ({ frames := 1, cells := 0, slots := 0, locals := 21 } : Room) D cI cZ cR [.ref a_t, .int x1] (wd_X4_fromDigits cI cZ cR a_t a_t_first a_t_rank a_t_told a_t_beaten a_t_leads a_t_order t_count t_order_r) sz (out.1) (wd_X4_fromDigits cI cZ cR a_t a_t_first a_t_rank a_t_told a_t_beaten a_t_leads a_t_order (out.2.1) (out.2.2)) := by
  refine met_of (Qf := fun A => qi D cI cZ cR A (out.1) (wd_X4_fromDigits cI cZ cR a_t a_t_first a_t_rank a_t_told a_t_beaten a_t_leads a_t_order (out.2.1) (out.2.2))) RX4 (by decide +kernel) rfl rfl (Nat.le_of_ble_eq_true rfl) ?_
  intro p e s m below meth c A X hK hA hP hD hS ls hl
  have hl : lv_has ls 8 [(0, .ref a_t), (1, .int x1)] := hl
  obtain ⟨hx, hb, hml, hr, hown, hts, hlocks, hN⟩ := id X
  unfold F_X4_fromDigits at hf
  refine lv_iconst (v := (0 : Int32)) hx hb dX4_fromDigits_0 (by decide) ?_
  refine lv_istore_n (lv' := [(2, .int (0 : Int32)), (0, .ref a_t), (1, .int x1)]) hx hb dX4_fromDigits_1 rfl hl (by decide) rfl (fun ls hl => ?_)
  refine lv_iload_n hx hb dX4_fromDigits_2 rfl (lv_at hl 2 rfl) ?_
  refine lv_istore_n (lv' := [(3, .int x1), (2, .int (0 : Int32)), (0, .ref a_t), (1, .int x1)]) hx hb dX4_fromDigits_3 rfl hl (by decide) rfl (fun ls hl => ?_)
  refine lv_iconst (v := (0 : Int32)) hx hb dX4_fromDigits_4 (by decide) ?_
  refine lv_istore (lv' := [(4, .int (0 : Int32)), (3, .int x1), (2, .int (0 : Int32)), (0, .ref a_t), (1, .int x1)]) hx hb dX4_fromDigits_5 hl (by decide) rfl (fun ls hl => ?_)
  exact w_X4_fromDigits_7 X hK hA _ (0 : Int32) x1 (0 : Int32) t_count t_order_r hf _ _ hP hD hS _ (lv_sub hl [3, 4, 2, 1, 0] rfl)

abbrev wd_X4_toDigits (cI cZ cR : ClassId) (a_t a_t_first a_t_rank a_t_told a_t_beaten a_t_leads a_t_order : Nat) (t_count : Int32) (t_order_r : Nat → Int32) : va_W := [(a_t, oB 4 [.ref a_t_first, .ref a_t_rank, .ref a_t_told, .ref a_t_beaten, .ref a_t_leads, .ref a_t_order, .int t_count]), (a_t_order, aI cI 6 t_order_r)]
set_option maxRecDepth 100000 in
theorem in_X4_toDigits_X4 : ∀ w ∈ wsX40, w ∈ wsX4_toDigits := by decide +kernel
set_option maxHeartbeats 4000000 in
set_option maxRecDepth 100000 in
theorem w_X4_toDigits_5 {p : Program} {l : Launch} {e : Env} {s : State} {m : MethodId} {args : Array Value} {below : List Frame} {meth : Method} {c : Code} {D : va_G} {cI cZ cR : ClassId} {A : Nat → Prop} {a_t a_t_first a_t_rank a_t_told a_t_beaten a_t_leads a_t_order : Nat} {t_count : Int32} {t_order_r : Nat → Int32} {out : Int32} (X : cx p s m args meth c cX4_toDigits 3 (some .int) RX4 wsX4_toDigits) (hK : va_K D vwCl (ty3 cI cZ cR) s) (hA : ∀ q, s.heap.size ≤ q → A q) : ∀ (n : Nat) (x1 : Int32) (x2 : Int32), F_X4_toDigits_5 t_count t_order_r n x1 x2 = some out → ∀ (H : Heap) (locs : List Loc), va_P D vwCl (wd_X4_toDigits cI cZ cR a_t a_t_first a_t_rank a_t_told a_t_beaten a_t_leads a_t_order t_count t_order_r) H → va_D A (wd_X4_toDigits cI cZ cR a_t a_t_first a_t_rank a_t_told a_t_beaten a_t_leads a_t_order t_count t_order_r) → va_S A s.heap H locs → ∀ (ls : Array Slot), lv_has ls 3 [(0, .ref a_t), (1, .int x1), (2, .int x2)] → W p l e (headSpec wsX4_toDigits ({ frames := 0, cells := 0, slots := 0, locals := 0 } : Room)).room s m args below meth c H locs 0 0 (MQ below (qi D cI cZ cR A (out) (wd_X4_toDigits cI cZ cR a_t a_t_first a_t_rank a_t_told a_t_beaten a_t_leads a_t_order t_count t_order_r)) args s 0 0 A) (F0 m 5 ls []) := by
  obtain ⟨hx, hb, hml, hr, hown, hts, hlocks, hN⟩ := id X
  intro n
  induction n with
  | zero =>
    intro x1 x2 hf
    cases (show (none : Option (Int32)) = some out from hf)
  | succ n ih =>
    intro x1 x2 hf H locs hP hD hS ls hl
    rw [F_X4_toDigits_5] at hf
    refine lv_iload_n hx hb dX4_toDigits_5 rfl (lv_at hl 2 rfl) ?_
    refine lv_aload_n hx hb dX4_toDigits_6 rfl (lv_at hl 0 rfl) ?_
    refine va_get (D := D) (ci := 4) (v := .int t_count) (C := RX4) (T := TX4) (N := 7) hx hb hts in_X4_toDigits_X4 hown hK hP 0 rfl rfl 6 (by decide) (hts (.fieldLink RX4 65 "DivisionHall$Motions" "count" "I") (by decide +kernel)) (fun _ h9 => h9) rfl dX4_toDigits_7 ?_
    refine lv_icmp_ge (tgt := 37) hx hb dX4_toDigits_10 (by decide) (fun c1 => ?_) (fun c1 => ?_)
    · have hf := ipos c1 hf
      refine lv_iload_n hx hb dX4_toDigits_37 rfl (lv_at hl 1 rfl) ?_
      cases hf
      exact reti X hK hP hD hS dX4_toDigits_38
    · have hf := ineg c1 hf
      refine lv_iload_n hx hb dX4_toDigits_13 rfl (lv_at hl 2 rfl) ?_
      refine lv_bipush (v := (6 : Int32)) hx hb dX4_toDigits_14 (by decide) ?_
      refine lv_icmp_ge (tgt := 37) hx hb dX4_toDigits_16 (by decide) (fun c2 => ?_) (fun c2 => ?_)
      · have hf := ipos c2 hf
        refine lv_iload_n hx hb dX4_toDigits_37 rfl (lv_at hl 1 rfl) ?_
        cases hf
        exact reti X hK hP hD hS dX4_toDigits_38
      · have hf := ineg c2 hf
        refine lv_iload_n hx hb dX4_toDigits_19 rfl (lv_at hl 1 rfl) ?_
        refine lv_bipush (v := (10 : Int32)) hx hb dX4_toDigits_20 (by decide) ?_
        refine lv_imul hx hb dX4_toDigits_22 ?_
        refine lv_aload_n hx hb dX4_toDigits_23 rfl (lv_at hl 0 rfl) ?_
        refine va_get (D := D) (ci := 4) (v := .ref a_t_order) (C := RX4) (T := TX4) (N := 7) hx hb hts in_X4_toDigits_X4 hown hK hP 0 rfl rfl 5 (by decide) (hts (.fieldLink RX4 27 "DivisionHall$Motions" "order" "[I") (by decide +kernel)) (fun _ h9 => h9) rfl dX4_toDigits_24 ?_
        refine lv_iload_n hx hb dX4_toDigits_27 rfl (lv_at hl 2 rfl) ?_
        obtain ⟨hi3, hf⟩ := gin_s hf
        refine va_iald hx hb hK hP 1 0 rfl rfl hi3 dX4_toDigits_28 ?_
        refine lv_iadd hx hb dX4_toDigits_29 ?_
        refine lv_istore_n (lv' := [(1, .int ((x1 * (10 : Int32)) + (t_order_r (x2).toNatClampNeg))), (0, .ref a_t), (2, .int x2)]) hx hb dX4_toDigits_30 rfl hl (by decide) rfl (fun ls hl => ?_)
        refine lv_iinc (v := (x2 + (1 : Int32))) (lv' := [(2, .int (x2 + (1 : Int32))), (1, .int ((x1 * (10 : Int32)) + (t_order_r (x2).toNatClampNeg))), (0, .ref a_t)]) hx hb dX4_toDigits_31 hl (k := 2) rfl rfl (by decide) rfl (fun ls hl => ?_)
        refine lv_goto (tgt := 5) hx hb dX4_toDigits_34 (by decide) ?_
        exact ih ((x1 * (10 : Int32)) + (t_order_r (x2).toNatClampNeg)) (x2 + (1 : Int32)) hf _ _ hP hD hS _ (lv_sub hl [2, 1, 0] rfl)
set_option maxHeartbeats 4000000 in
set_option maxRecDepth 100000 in
theorem c_X4_toDigits (l : Launch) (D : va_G) (cI cZ cR : ClassId) {a_t a_t_first a_t_rank a_t_told a_t_beaten a_t_leads a_t_order : Nat} {t_count : Int32} {t_order_r : Nat → Int32} {sz : Nat} {out : Int32} (hf : F_X4_toDigits t_count t_order_r = some out) : CI l yX4_toDigits wsX4_toDigits ({ frames := 0, cells := 0, slots := 0, locals := 0 } : Room) D cI cZ cR [.ref a_t] (wd_X4_toDigits cI cZ cR a_t a_t_first a_t_rank a_t_told a_t_beaten a_t_leads a_t_order t_count t_order_r) sz (out) (wd_X4_toDigits cI cZ cR a_t a_t_first a_t_rank a_t_told a_t_beaten a_t_leads a_t_order t_count t_order_r) := by
  refine met_of (Qf := fun A => qi D cI cZ cR A (out) (wd_X4_toDigits cI cZ cR a_t a_t_first a_t_rank a_t_told a_t_beaten a_t_leads a_t_order t_count t_order_r)) RX4 (by decide +kernel) rfl rfl (Nat.le_of_ble_eq_true rfl) ?_
  intro p e s m below meth c A X hK hA hP hD hS ls hl
  have hl : lv_has ls 3 [(0, .ref a_t)] := hl
  obtain ⟨hx, hb, hml, hr, hown, hts, hlocks, hN⟩ := id X
  unfold F_X4_toDigits at hf
  refine lv_bipush (v := (9 : Int32)) hx hb dX4_toDigits_0 (by decide) ?_
  refine lv_istore_n (lv' := [(1, .int (9 : Int32)), (0, .ref a_t)]) hx hb dX4_toDigits_2 rfl hl (by decide) rfl (fun ls hl => ?_)
  refine lv_iconst (v := (0 : Int32)) hx hb dX4_toDigits_3 (by decide) ?_
  refine lv_istore_n (lv' := [(2, .int (0 : Int32)), (1, .int (9 : Int32)), (0, .ref a_t)]) hx hb dX4_toDigits_4 rfl hl (by decide) rfl (fun ls hl => ?_)
  exact w_X4_toDigits_5 X hK hA _ (9 : Int32) (0 : Int32) hf _ _ hP hD hS _ (lv_sub hl [2, 1, 0] rfl)

abbrev wd_X4_leadOf (cI cZ cR : ClassId) (a_t a_t_first a_t_rank a_t_told a_t_beaten a_t_leads a_t_order : Nat) (t_count : Int32) (t_leads_r : Nat → Int32) (t_order_r : Nat → Int32) : va_W := [(a_t, oB 4 [.ref a_t_first, .ref a_t_rank, .ref a_t_told, .ref a_t_beaten, .ref a_t_leads, .ref a_t_order, .int t_count]), (a_t_leads, aI cI 6 t_leads_r), (a_t_order, aI cI 6 t_order_r)]
set_option maxRecDepth 100000 in
theorem in_X4_leadOf_X4 : ∀ w ∈ wsX40, w ∈ wsX4_leadOf := by decide +kernel
set_option maxHeartbeats 4000000 in
set_option maxRecDepth 100000 in
theorem c_X4_leadOf (l : Launch) (D : va_G) (cI cZ cR : ClassId) {a_t a_t_first a_t_rank a_t_told a_t_beaten a_t_leads a_t_order : Nat} {t_count : Int32} {t_leads_r : Nat → Int32} {t_order_r : Nat → Int32} {x1 : Int32} {sz : Nat} {out : Int32} (hf : F_X4_leadOf x1 t_leads_r t_order_r = some out) : CI l yX4_leadOf wsX4_leadOf ({ frames := 1, cells := 0, slots := 0, locals := 21 } : Room) D cI cZ cR [.ref a_t, .int x1] (wd_X4_leadOf cI cZ cR a_t a_t_first a_t_rank a_t_told a_t_beaten a_t_leads a_t_order t_count t_leads_r t_order_r) sz (out) (wd_X4_leadOf cI cZ cR a_t a_t_first a_t_rank a_t_told a_t_beaten a_t_leads a_t_order t_count t_leads_r t_order_r) := by
  refine met_of (Qf := fun A => qi D cI cZ cR A (out) (wd_X4_leadOf cI cZ cR a_t a_t_first a_t_rank a_t_told a_t_beaten a_t_leads a_t_order t_count t_leads_r t_order_r)) RX4 (by decide +kernel) rfl rfl (Nat.le_of_ble_eq_true rfl) ?_
  intro p e s m below meth c A X hK hA hP hD hS ls hl
  have hl : lv_has ls 2 [(0, .ref a_t), (1, .int x1)] := hl
  obtain ⟨hx, hb, hml, hr, hown, hts, hlocks, hN⟩ := id X
  unfold F_X4_leadOf at hf
  refine lv_iload_n hx hb dX4_leadOf_0 rfl (lv_at hl 1 rfl) ?_
  refine lv_bipush (v := (6 : Int32)) hx hb dX4_leadOf_1 (by decide) ?_
  obtain ⟨r1, hr2, hf⟩ := bnd hf
  refine wcalli (D := D) (cI := cI) (cZ := cZ) (cR := cR) (wc := (wd_X11_inside cI cZ cR)) (w' := (wd_X11_inside cI cZ cR)) [] hP hD hS hA rfl rfl rfl (rnSN (As := [.int x1, .int (6 : Int32)]) X [] hK hP hD rfl rfl (c_X11_inside l D cI cZ cR hr2) ⟨va_cnB (host := "DivisionHall") 2 hts ggX4_leadOf_X11_inside rfl rfl rfl (hN.2.1 ("DivisionHall$Motions", 36, yX11_inside, "DivisionHall") (by decide +kernel)) (hts (.initialized RX11) (by decide +kernel)) (by decide +kernel) ⟨Nat.le_of_ble_eq_true rfl, Nat.le_of_ble_eq_true rfl⟩, hts (.static yX11_inside) (by decide +kernel), trivial⟩ rfl hl.1 rfl (Nat.le_of_ble_eq_true rfl) dX4_leadOf_3) (fun H locs hP hD hS => ?_)
  have hP : va_P D vwCl (wd_X4_leadOf cI cZ cR a_t a_t_first a_t_rank a_t_told a_t_beaten a_t_leads a_t_order t_count t_leads_r t_order_r) H := hP
  have hD : va_D A (wd_X4_leadOf cI cZ cR a_t a_t_first a_t_rank a_t_told a_t_beaten a_t_leads a_t_order t_count t_leads_r t_order_r) := hD
  refine lv_if_eq (tgt := 37) hx hb dX4_leadOf_6 (by decide) (fun c3 => ?_) (fun c3 => ?_)
  · have hf := ipos c3 hf
    refine lv_iconst (v := (-1 : Int32)) hx hb dX4_leadOf_37 (by decide) ?_
    cases hf
    exact reti X hK hP hD hS dX4_leadOf_38
  · have hf := ineg c3 hf
    refine lv_aload_n hx hb dX4_leadOf_9 rfl (lv_at hl 0 rfl) ?_
    refine va_get (D := D) (ci := 4) (v := .ref a_t_order) (C := RX4) (T := TX4) (N := 7) hx hb hts in_X4_leadOf_X4 hown hK hP 0 rfl rfl 5 (by decide) (hts (.fieldLink RX4 27 "DivisionHall$Motions" "order" "[I") (by decide +kernel)) (fun _ h9 => h9) rfl dX4_leadOf_10 ?_
    refine lv_iload_n hx hb dX4_leadOf_13 rfl (lv_at hl 1 rfl) ?_
    obtain ⟨hi4, hf⟩ := gin_s hf
    refine va_iald hx hb hK hP 2 0 rfl rfl hi4 dX4_leadOf_14 ?_
    refine lv_bipush (v := (6 : Int32)) hx hb dX4_leadOf_15 (by decide) ?_
    obtain ⟨r5, hr6, hf⟩ := bnd hf
    refine wcalli (D := D) (cI := cI) (cZ := cZ) (cR := cR) (wc := (wd_X11_inside cI cZ cR)) (w' := (wd_X11_inside cI cZ cR)) [] hP hD hS hA rfl rfl rfl (rnSN (As := [.int (t_order_r (x1).toNatClampNeg), .int (6 : Int32)]) X [] hK hP hD rfl rfl (c_X11_inside l D cI cZ cR hr6) ⟨va_cnB (host := "DivisionHall") 2 hts ggX4_leadOf_X11_inside rfl rfl rfl (hN.2.1 ("DivisionHall$Motions", 36, yX11_inside, "DivisionHall") (by decide +kernel)) (hts (.initialized RX11) (by decide +kernel)) (by decide +kernel) ⟨Nat.le_of_ble_eq_true rfl, Nat.le_of_ble_eq_true rfl⟩, hts (.static yX11_inside) (by decide +kernel), trivial⟩ rfl hl.1 rfl (Nat.le_of_ble_eq_true rfl) dX4_leadOf_17) (fun H locs hP hD hS => ?_)
    have hP : va_P D vwCl (wd_X4_leadOf cI cZ cR a_t a_t_first a_t_rank a_t_told a_t_beaten a_t_leads a_t_order t_count t_leads_r t_order_r) H := hP
    have hD : va_D A (wd_X4_leadOf cI cZ cR a_t a_t_first a_t_rank a_t_told a_t_beaten a_t_leads a_t_order t_count t_leads_r t_order_r) := hD
    refine lv_if_eq (tgt := 37) hx hb dX4_leadOf_20 (by decide) (fun c7 => ?_) (fun c7 => ?_)
    · have hf := ipos c7 hf
      refine lv_iconst (v := (-1 : Int32)) hx hb dX4_leadOf_37 (by decide) ?_
      cases hf
      exact reti X hK hP hD hS dX4_leadOf_38
    · have hf := ineg c7 hf
      refine lv_aload_n hx hb dX4_leadOf_23 rfl (lv_at hl 0 rfl) ?_
      refine va_get (D := D) (ci := 4) (v := .ref a_t_leads) (C := RX4) (T := TX4) (N := 7) hx hb hts in_X4_leadOf_X4 hown hK hP 0 rfl rfl 4 (by decide) (hts (.fieldLink RX4 24 "DivisionHall$Motions" "leads" "[I") (by decide +kernel)) (fun _ h9 => h9) rfl dX4_leadOf_24 ?_
      refine lv_aload_n hx hb dX4_leadOf_27 rfl (lv_at hl 0 rfl) ?_
      refine va_get (D := D) (ci := 4) (v := .ref a_t_order) (C := RX4) (T := TX4) (N := 7) hx hb hts in_X4_leadOf_X4 hown hK hP 0 rfl rfl 5 (by decide) (hts (.fieldLink RX4 27 "DivisionHall$Motions" "order" "[I") (by decide +kernel)) (fun _ h9 => h9) rfl dX4_leadOf_28 ?_
      refine lv_iload_n hx hb dX4_leadOf_31 rfl (lv_at hl 1 rfl) ?_
      obtain ⟨hi8, hf⟩ := gin_s hf
      refine va_iald hx hb hK hP 2 0 rfl rfl hi8 dX4_leadOf_32 ?_
      obtain ⟨hi9, hf⟩ := gin_s hf
      refine va_iald hx hb hK hP 1 0 rfl rfl hi9 dX4_leadOf_33 ?_
      refine lv_goto (tgt := 38) hx hb dX4_leadOf_34 (by decide) ?_
      cases hf
      exact reti X hK hP hD hS dX4_leadOf_38

abbrev wd_X4_foreseen (cI cZ cR : ClassId) (a_t a_t_first a_t_rank a_t_told a_t_beaten a_t_leads a_t_order : Nat) (t_count : Int32) (t_beaten_r : Nat → Int32) (t_leads_r : Nat → Int32) (t_order_r : Nat → Int32) : va_W := [(a_t, oB 4 [.ref a_t_first, .ref a_t_rank, .ref a_t_told, .ref a_t_beaten, .ref a_t_leads, .ref a_t_order, .int t_count]), (a_t_beaten, aI cI 6 t_beaten_r), (a_t_leads, aI cI 6 t_leads_r), (a_t_order, aI cI 6 t_order_r)]
set_option maxRecDepth 100000 in
theorem in_X4_foreseen_X4 : ∀ w ∈ wsX40, w ∈ wsX4_foreseen := by decide +kernel
set_option maxHeartbeats 4000000 in
set_option maxRecDepth 100000 in
theorem w_X4_foreseen_41 {p : Program} {l : Launch} {e : Env} {s : State} {m : MethodId} {args : Array Value} {below : List Frame} {meth : Method} {c : Code} {D : va_G} {cI cZ cR : ClassId} {A : Nat → Prop} {a_t a_t_first a_t_rank a_t_told a_t_beaten a_t_leads a_t_order : Nat} {t_count : Int32} {t_beaten_r : Nat → Int32} {t_order_r : Nat → Int32} {rec28 : Int32 → (Nat → Int32) → Option (Int32 × (Nat → Int32))} {out : Int32 × (Nat → Int32)} (X : cx p s m args meth c cX4_foreseen 4 (some .int) RX4 wsX4_foreseen) (hK : va_K D vwCl (ty3 cI cZ cR) s) (hA : ∀ q, s.heap.size ≤ q → A q) (hrec28 : ∀ (x1 : Int32) (t_leads_r : Nat → Int32), rec28 x1 t_leads_r = some out → ∀ (H : Heap) (locs : List Loc), va_P D vwCl (wd_X4_foreseen cI cZ cR a_t a_t_first a_t_rank a_t_told a_t_beaten a_t_leads a_t_order t_count t_beaten_r t_leads_r t_order_r) H → va_D A (wd_X4_foreseen cI cZ cR a_t a_t_first a_t_rank a_t_told a_t_beaten a_t_leads a_t_order t_count t_beaten_r t_leads_r t_order_r) → va_S A s.heap H locs → ∀ (ls : Array Slot), lv_has ls 4 [(0, .ref a_t), (1, .int x1)] → W p l e (headSpec wsX4_foreseen ({ frames := 2, cells := 0, slots := 0, locals := 43 } : Room)).room s m args below meth c H locs 0 0 (MQ below (qi D cI cZ cR A (out.1) (wd_X4_foreseen cI cZ cR a_t a_t_first a_t_rank a_t_told a_t_beaten a_t_leads a_t_order t_count t_beaten_r (out.2) t_order_r)) args s 0 0 A) (F0 m 28 ls [])) : ∀ (n : Nat) (x1 : Int32) (x2 : Int32) (x3 : Int32) (t_leads_r : Nat → Int32), F_X4_foreseen_41 t_count t_beaten_r t_order_r rec28 n x1 x2 x3 t_leads_r = some out → ∀ (H : Heap) (locs : List Loc), va_P D vwCl (wd_X4_foreseen cI cZ cR a_t a_t_first a_t_rank a_t_told a_t_beaten a_t_leads a_t_order t_count t_beaten_r t_leads_r t_order_r) H → va_D A (wd_X4_foreseen cI cZ cR a_t a_t_first a_t_rank a_t_told a_t_beaten a_t_leads a_t_order t_count t_beaten_r t_leads_r t_order_r) → va_S A s.heap H locs → ∀ (ls : Array Slot), lv_has ls 4 [(0, .ref a_t), (1, .int x1), (2, .int x2), (3, .int x3)] → W p l e (headSpec wsX4_foreseen ({ frames := 2, cells := 0, slots := 0, locals := 43 } : Room)).room s m args below meth c H locs 0 0 (MQ below (qi D cI cZ cR A (out.1) (wd_X4_foreseen cI cZ cR a_t a_t_first a_t_rank a_t_told a_t_beaten a_t_leads a_t_order t_count t_beaten_r (out.2) t_order_r)) args s 0 0 A) (F0 m 41 ls []) := by
  obtain ⟨hx, hb, hml, hr, hown, hts, hlocks, hN⟩ := id X
  intro n
  induction n with
  | zero =>
    intro x1 x2 x3 t_leads_r hf
    cases (show (none : Option (Int32 × (Nat → Int32))) = some out from hf)
  | succ n ih =>
    intro x1 x2 x3 t_leads_r hf H locs hP hD hS ls hl
    rw [F_X4_foreseen_41] at hf
    refine lv_iload_n hx hb dX4_foreseen_41 rfl (lv_at hl 3 rfl) ?_
    refine lv_bipush (v := (6 : Int32)) hx hb dX4_foreseen_42 (by decide) ?_
    refine lv_icmp_ge (tgt := 74) hx hb dX4_foreseen_44 (by decide) (fun c8 => ?_) (fun c8 => ?_)
    · have hf := ipos c8 hf
      refine lv_iinc (v := (x1 + (-1 : Int32))) (lv' := [(1, .int (x1 + (-1 : Int32))), (0, .ref a_t), (2, .int x2), (3, .int x3)]) hx hb dX4_foreseen_74 hl (k := 1) rfl rfl (by decide) rfl (fun ls hl => ?_)
      refine lv_goto (tgt := 28) hx hb dX4_foreseen_77 (by decide) ?_
      exact hrec28 (x1 + (-1 : Int32)) t_leads_r hf _ _ hP hD hS _ (lv_sub hl [1, 0] rfl)
    · have hf := ineg c8 hf
      refine lv_aload_n hx hb dX4_foreseen_47 rfl (lv_at hl 0 rfl) ?_
      refine lv_iload_n hx hb dX4_foreseen_48 rfl (lv_at hl 2 rfl) ?_
      refine lv_aload_n hx hb dX4_foreseen_49 rfl (lv_at hl 0 rfl) ?_
      refine va_get (D := D) (ci := 4) (v := .ref a_t_leads) (C := RX4) (T := TX4) (N := 7) hx hb hts in_X4_foreseen_X4 hown hK hP 0 rfl rfl 4 (by decide) (hts (.fieldLink RX4 24 "DivisionHall$Motions" "leads" "[I") (by decide +kernel)) (fun _ h9 => h9) rfl dX4_foreseen_50 ?_
      refine lv_iload_n hx hb dX4_foreseen_53 rfl (lv_at hl 3 rfl) ?_
      obtain ⟨hi9, hf⟩ := gin_s hf
      refine va_iald hx hb hK hP 2 0 rfl rfl hi9 dX4_foreseen_54 ?_
      obtain ⟨r10, hr11, hf⟩ := bnd hf
      refine wcalli (D := D) (cI := cI) (cZ := cZ) (cR := cR) (wc := (wd_X4_beats cI cZ cR a_t a_t_first a_t_rank a_t_told a_t_beaten a_t_leads a_t_order t_count t_beaten_r)) (w' := (wd_X4_beats cI cZ cR a_t a_t_first a_t_rank a_t_told a_t_beaten a_t_leads a_t_order t_count t_beaten_r)) [0, 1] hP hD hS hA rfl rfl rfl (rnV (As := [.int x2, .int (t_leads_r (x3).toNatClampNeg)]) (ci := 4) (q0 := 0) X [0, 1] hK hP hD rfl rfl rfl rfl (c_X4_beats l D cI cZ cR hr11) (cwV 2 hts gX4_foreseen_X4_beats rfl rfl rfl (by decide +kernel) ⟨Nat.le_of_ble_eq_true rfl, Nat.le_of_ble_eq_true rfl⟩) rfl hl.1 rfl (Nat.le_of_ble_eq_true rfl) dX4_foreseen_55) (fun H locs hP hD hS => ?_)
      have hP : va_P D vwCl (wd_X4_foreseen cI cZ cR a_t a_t_first a_t_rank a_t_told a_t_beaten a_t_leads a_t_order t_count t_beaten_r t_leads_r t_order_r) H := hP
      have hD : va_D A (wd_X4_foreseen cI cZ cR a_t a_t_first a_t_rank a_t_told a_t_beaten a_t_leads a_t_order t_count t_beaten_r t_leads_r t_order_r) := hD
      refine lv_if_eq (tgt := 68) hx hb dX4_foreseen_58 (by decide) (fun c12 => ?_) (fun c12 => ?_)
      · have hf := ipos c12 hf
        refine lv_iinc (v := (x3 + (1 : Int32))) (lv' := [(3, .int (x3 + (1 : Int32))), (0, .ref a_t), (1, .int x1), (2, .int x2)]) hx hb dX4_foreseen_68 hl (k := 3) rfl rfl (by decide) rfl (fun ls hl => ?_)
        refine lv_goto (tgt := 41) hx hb dX4_foreseen_71 (by decide) ?_
        exact ih x1 x2 (x3 + (1 : Int32)) t_leads_r hf _ _ hP hD hS _ (lv_sub hl [1, 2, 3, 0] rfl)
      · have hf := ineg c12 hf
        refine lv_aload_n hx hb dX4_foreseen_61 rfl (lv_at hl 0 rfl) ?_
        refine va_get (D := D) (ci := 4) (v := .ref a_t_leads) (C := RX4) (T := TX4) (N := 7) hx hb hts in_X4_foreseen_X4 hown hK hP 0 rfl rfl 4 (by decide) (hts (.fieldLink RX4 24 "DivisionHall$Motions" "leads" "[I") (by decide +kernel)) (fun _ h9 => h9) rfl dX4_foreseen_62 ?_
        refine lv_iload_n hx hb dX4_foreseen_65 rfl (lv_at hl 3 rfl) ?_
        refine lv_iload_n hx hb dX4_foreseen_66 rfl (lv_at hl 2 rfl) ?_
        obtain ⟨hi13, hf⟩ := gin_s hf
        refine va_iast hx hb hK hP hD hS 2 0 rfl rfl hi13 dX4_foreseen_67 (fun H locs hP hD hS => ?_)
        have hP : va_P D vwCl (wd_X4_foreseen cI cZ cR a_t a_t_first a_t_rank a_t_told a_t_beaten a_t_leads a_t_order t_count t_beaten_r (upd t_leads_r (x3).toNatClampNeg x2) t_order_r) H := hP
        have hD : va_D A (wd_X4_foreseen cI cZ cR a_t a_t_first a_t_rank a_t_told a_t_beaten a_t_leads a_t_order t_count t_beaten_r (upd t_leads_r (x3).toNatClampNeg x2) t_order_r) := hD
        refine lv_iinc (v := (x3 + (1 : Int32))) (lv' := [(3, .int (x3 + (1 : Int32))), (0, .ref a_t), (1, .int x1), (2, .int x2)]) hx hb dX4_foreseen_68 hl (k := 3) rfl rfl (by decide) rfl (fun ls hl => ?_)
        refine lv_goto (tgt := 41) hx hb dX4_foreseen_71 (by decide) ?_
        exact ih x1 x2 (x3 + (1 : Int32)) (upd t_leads_r (x3).toNatClampNeg x2) hf _ _ hP hD hS _ (lv_sub hl [1, 2, 3, 0] rfl)
set_option maxHeartbeats 4000000 in
set_option maxRecDepth 100000 in
theorem w_X4_foreseen_28 {p : Program} {l : Launch} {e : Env} {s : State} {m : MethodId} {args : Array Value} {below : List Frame} {meth : Method} {c : Code} {D : va_G} {cI cZ cR : ClassId} {A : Nat → Prop} {a_t a_t_first a_t_rank a_t_told a_t_beaten a_t_leads a_t_order : Nat} {t_count : Int32} {t_beaten_r : Nat → Int32} {t_order_r : Nat → Int32} {out : Int32 × (Nat → Int32)} (X : cx p s m args meth c cX4_foreseen 4 (some .int) RX4 wsX4_foreseen) (hK : va_K D vwCl (ty3 cI cZ cR) s) (hA : ∀ q, s.heap.size ≤ q → A q) : ∀ (n : Nat) (x1 : Int32) (t_leads_r : Nat → Int32), F_X4_foreseen_28 t_count t_beaten_r t_order_r n x1 t_leads_r = some out → ∀ (H : Heap) (locs : List Loc), va_P D vwCl (wd_X4_foreseen cI cZ cR a_t a_t_first a_t_rank a_t_told a_t_beaten a_t_leads a_t_order t_count t_beaten_r t_leads_r t_order_r) H → va_D A (wd_X4_foreseen cI cZ cR a_t a_t_first a_t_rank a_t_told a_t_beaten a_t_leads a_t_order t_count t_beaten_r t_leads_r t_order_r) → va_S A s.heap H locs → ∀ (ls : Array Slot), lv_has ls 4 [(0, .ref a_t), (1, .int x1)] → W p l e (headSpec wsX4_foreseen ({ frames := 2, cells := 0, slots := 0, locals := 43 } : Room)).room s m args below meth c H locs 0 0 (MQ below (qi D cI cZ cR A (out.1) (wd_X4_foreseen cI cZ cR a_t a_t_first a_t_rank a_t_told a_t_beaten a_t_leads a_t_order t_count t_beaten_r (out.2) t_order_r)) args s 0 0 A) (F0 m 28 ls []) := by
  obtain ⟨hx, hb, hml, hr, hown, hts, hlocks, hN⟩ := id X
  intro n
  induction n with
  | zero =>
    intro x1 t_leads_r hf
    cases (show (none : Option (Int32 × (Nat → Int32))) = some out from hf)
  | succ n ih =>
    intro x1 t_leads_r hf H locs hP hD hS ls hl
    rw [F_X4_foreseen_28] at hf
    refine lv_iload_n hx hb dX4_foreseen_28 rfl (lv_at hl 1 rfl) ?_
    refine lv_iconst (v := (1 : Int32)) hx hb dX4_foreseen_29 (by decide) ?_
    refine lv_icmp_lt (tgt := 80) hx hb dX4_foreseen_30 (by decide) (fun c3 => ?_) (fun c3 => ?_)
    · have hf := ipos c3 hf
      refine lv_aload_n hx hb dX4_foreseen_80 rfl (lv_at hl 0 rfl) ?_
      refine lv_iconst (v := (0 : Int32)) hx hb dX4_foreseen_81 (by decide) ?_
      obtain ⟨r4, hr5, hf⟩ := bnd hf
      refine wcalli (D := D) (cI := cI) (cZ := cZ) (cR := cR) (wc := (wd_X4_leadOf cI cZ cR a_t a_t_first a_t_rank a_t_told a_t_beaten a_t_leads a_t_order t_count t_leads_r t_order_r)) (w' := (wd_X4_leadOf cI cZ cR a_t a_t_first a_t_rank a_t_told a_t_beaten a_t_leads a_t_order t_count t_leads_r t_order_r)) [0, 2, 3] hP hD hS hA rfl rfl rfl (rnV (As := [.int (0 : Int32)]) (ci := 4) (q0 := 0) X [0, 2, 3] hK hP hD rfl rfl rfl rfl (c_X4_leadOf l D cI cZ cR hr5) (cwV 1 hts gX4_foreseen_X4_leadOf rfl rfl rfl (by decide +kernel) ⟨Nat.le_of_ble_eq_true rfl, Nat.le_of_ble_eq_true rfl⟩) rfl hl.1 rfl (Nat.le_of_ble_eq_true rfl) dX4_foreseen_82) (fun H locs hP hD hS => ?_)
      have hP : va_P D vwCl (wd_X4_foreseen cI cZ cR a_t a_t_first a_t_rank a_t_told a_t_beaten a_t_leads a_t_order t_count t_beaten_r t_leads_r t_order_r) H := hP
      have hD : va_D A (wd_X4_foreseen cI cZ cR a_t a_t_first a_t_rank a_t_told a_t_beaten a_t_leads a_t_order t_count t_beaten_r t_leads_r t_order_r) := hD
      cases hf
      exact reti X hK hP hD hS dX4_foreseen_85
    · have hf := ineg c3 hf
      refine lv_aload_n hx hb dX4_foreseen_33 rfl (lv_at hl 0 rfl) ?_
      refine lv_iload_n hx hb dX4_foreseen_34 rfl (lv_at hl 1 rfl) ?_
      obtain ⟨r6, hr7, hf⟩ := bnd hf
      refine wcalli (D := D) (cI := cI) (cZ := cZ) (cR := cR) (wc := (wd_X4_leadOf cI cZ cR a_t a_t_first a_t_rank a_t_told a_t_beaten a_t_leads a_t_order t_count t_leads_r t_order_r)) (w' := (wd_X4_leadOf cI cZ cR a_t a_t_first a_t_rank a_t_told a_t_beaten a_t_leads a_t_order t_count t_leads_r t_order_r)) [0, 2, 3] hP hD hS hA rfl rfl rfl (rnV (As := [.int x1]) (ci := 4) (q0 := 0) X [0, 2, 3] hK hP hD rfl rfl rfl rfl (c_X4_leadOf l D cI cZ cR hr7) (cwV 1 hts gX4_foreseen_X4_leadOf rfl rfl rfl (by decide +kernel) ⟨Nat.le_of_ble_eq_true rfl, Nat.le_of_ble_eq_true rfl⟩) rfl hl.1 rfl (Nat.le_of_ble_eq_true rfl) dX4_foreseen_35) (fun H locs hP hD hS => ?_)
      have hP : va_P D vwCl (wd_X4_foreseen cI cZ cR a_t a_t_first a_t_rank a_t_told a_t_beaten a_t_leads a_t_order t_count t_beaten_r t_leads_r t_order_r) H := hP
      have hD : va_D A (wd_X4_foreseen cI cZ cR a_t a_t_first a_t_rank a_t_told a_t_beaten a_t_leads a_t_order t_count t_beaten_r t_leads_r t_order_r) := hD
      refine lv_istore_n (lv' := [(2, .int r6), (0, .ref a_t), (1, .int x1)]) hx hb dX4_foreseen_38 rfl hl (by decide) rfl (fun ls hl => ?_)
      refine lv_iconst (v := (0 : Int32)) hx hb dX4_foreseen_39 (by decide) ?_
      refine lv_istore_n (lv' := [(3, .int (0 : Int32)), (2, .int r6), (0, .ref a_t), (1, .int x1)]) hx hb dX4_foreseen_40 rfl hl (by decide) rfl (fun ls hl => ?_)
      exact w_X4_foreseen_41 X hK hA ih _ x1 r6 (0 : Int32) t_leads_r hf _ _ hP hD hS _ (lv_sub hl [2, 3, 1, 0] rfl)
set_option maxHeartbeats 4000000 in
set_option maxRecDepth 100000 in
theorem w_X4_foreseen_2 {p : Program} {l : Launch} {e : Env} {s : State} {m : MethodId} {args : Array Value} {below : List Frame} {meth : Method} {c : Code} {D : va_G} {cI cZ cR : ClassId} {A : Nat → Prop} {a_t a_t_first a_t_rank a_t_told a_t_beaten a_t_leads a_t_order : Nat} {t_count : Int32} {t_beaten_r : Nat → Int32} {t_order_r : Nat → Int32} {out : Int32 × (Nat → Int32)} (X : cx p s m args meth c cX4_foreseen 4 (some .int) RX4 wsX4_foreseen) (hK : va_K D vwCl (ty3 cI cZ cR) s) (hA : ∀ q, s.heap.size ≤ q → A q) : ∀ (n : Nat) (x1 : Int32) (t_leads_r : Nat → Int32), F_X4_foreseen_2 t_count t_beaten_r t_order_r n x1 t_leads_r = some out → ∀ (H : Heap) (locs : List Loc), va_P D vwCl (wd_X4_foreseen cI cZ cR a_t a_t_first a_t_rank a_t_told a_t_beaten a_t_leads a_t_order t_count t_beaten_r t_leads_r t_order_r) H → va_D A (wd_X4_foreseen cI cZ cR a_t a_t_first a_t_rank a_t_told a_t_beaten a_t_leads a_t_order t_count t_beaten_r t_leads_r t_order_r) → va_S A s.heap H locs → ∀ (ls : Array Slot), lv_has ls 4 [(0, .ref a_t), (1, .int x1)] → W p l e (headSpec wsX4_foreseen ({ frames := 2, cells := 0, slots := 0, locals := 43 } : Room)).room s m args below meth c H locs 0 0 (MQ below (qi D cI cZ cR A (out.1) (wd_X4_foreseen cI cZ cR a_t a_t_first a_t_rank a_t_told a_t_beaten a_t_leads a_t_order t_count t_beaten_r (out.2) t_order_r)) args s 0 0 A) (F0 m 2 ls []) := by
  obtain ⟨hx, hb, hml, hr, hown, hts, hlocks, hN⟩ := id X
  intro n
  induction n with
  | zero =>
    intro x1 t_leads_r hf
    cases (show (none : Option (Int32 × (Nat → Int32))) = some out from hf)
  | succ n ih =>
    intro x1 t_leads_r hf H locs hP hD hS ls hl
    rw [F_X4_foreseen_2] at hf
    refine lv_iload_n hx hb dX4_foreseen_2 rfl (lv_at hl 1 rfl) ?_
    refine lv_bipush (v := (6 : Int32)) hx hb dX4_foreseen_3 (by decide) ?_
    refine lv_icmp_ge (tgt := 21) hx hb dX4_foreseen_5 (by decide) (fun c1 => ?_) (fun c1 => ?_)
    · have hf := ipos c1 hf
      refine lv_aload_n hx hb dX4_foreseen_21 rfl (lv_at hl 0 rfl) ?_
      refine va_get (D := D) (ci := 4) (v := .int t_count) (C := RX4) (T := TX4) (N := 7) hx hb hts in_X4_foreseen_X4 hown hK hP 0 rfl rfl 6 (by decide) (hts (.fieldLink RX4 65 "DivisionHall$Motions" "count" "I") (by decide +kernel)) (fun _ h9 => h9) rfl dX4_foreseen_22 ?_
      refine lv_iconst (v := (1 : Int32)) hx hb dX4_foreseen_25 (by decide) ?_
      refine lv_isub hx hb dX4_foreseen_26 ?_
      refine lv_istore_n (lv' := [(1, .int (t_count - (1 : Int32))), (0, .ref a_t)]) hx hb dX4_foreseen_27 rfl hl (by decide) rfl (fun ls hl => ?_)
      exact w_X4_foreseen_28 X hK hA _ (t_count - (1 : Int32)) t_leads_r hf _ _ hP hD hS _ (lv_sub hl [1, 0] rfl)
    · have hf := ineg c1 hf
      refine lv_aload_n hx hb dX4_foreseen_8 rfl (lv_at hl 0 rfl) ?_
      refine va_get (D := D) (ci := 4) (v := .ref a_t_leads) (C := RX4) (T := TX4) (N := 7) hx hb hts in_X4_foreseen_X4 hown hK hP 0 rfl rfl 4 (by decide) (hts (.fieldLink RX4 24 "DivisionHall$Motions" "leads" "[I") (by decide +kernel)) (fun _ h9 => h9) rfl dX4_foreseen_9 ?_
      refine lv_iload_n hx hb dX4_foreseen_12 rfl (lv_at hl 1 rfl) ?_
      refine lv_iload_n hx hb dX4_foreseen_13 rfl (lv_at hl 1 rfl) ?_
      obtain ⟨hi2, hf⟩ := gin_s hf
      refine va_iast hx hb hK hP hD hS 2 0 rfl rfl hi2 dX4_foreseen_14 (fun H locs hP hD hS => ?_)
      have hP : va_P D vwCl (wd_X4_foreseen cI cZ cR a_t a_t_first a_t_rank a_t_told a_t_beaten a_t_leads a_t_order t_count t_beaten_r (upd t_leads_r (x1).toNatClampNeg x1) t_order_r) H := hP
      have hD : va_D A (wd_X4_foreseen cI cZ cR a_t a_t_first a_t_rank a_t_told a_t_beaten a_t_leads a_t_order t_count t_beaten_r (upd t_leads_r (x1).toNatClampNeg x1) t_order_r) := hD
      refine lv_iinc (v := (x1 + (1 : Int32))) (lv' := [(1, .int (x1 + (1 : Int32))), (0, .ref a_t)]) hx hb dX4_foreseen_15 hl (k := 1) rfl rfl (by decide) rfl (fun ls hl => ?_)
      refine lv_goto (tgt := 2) hx hb dX4_foreseen_18 (by decide) ?_
      exact ih (x1 + (1 : Int32)) (upd t_leads_r (x1).toNatClampNeg x1) hf _ _ hP hD hS _ (lv_sub hl [1, 0] rfl)
set_option maxHeartbeats 4000000 in
set_option maxRecDepth 100000 in
theorem c_X4_foreseen (l : Launch) (D : va_G) (cI cZ cR : ClassId) {a_t a_t_first a_t_rank a_t_told a_t_beaten a_t_leads a_t_order : Nat} {t_count : Int32} {t_beaten_r : Nat → Int32} {t_leads_r : Nat → Int32} {t_order_r : Nat → Int32} {sz : Nat} {out : Int32 × (Nat → Int32)} (hf : F_X4_foreseen t_count t_beaten_r t_leads_r t_order_r = some out) : CI l yX4_foreseen wsX4_foreseen ({ frames := 2, cells := 0, slots := 0, locals := 43 } : Room) D cI cZ cR [.ref a_t] (wd_X4_foreseen cI cZ cR a_t a_t_first a_t_rank a_t_told a_t_beaten a_t_leads a_t_order t_count t_beaten_r t_leads_r t_order_r) sz (out.1) (wd_X4_foreseen cI cZ cR a_t a_t_first a_t_rank a_t_told a_t_beaten a_t_leads a_t_order t_count t_beaten_r (out.2) t_order_r) := by
  refine met_of (Qf := fun A => qi D cI cZ cR A (out.1) (wd_X4_foreseen cI cZ cR a_t a_t_first a_t_rank a_t_told a_t_beaten a_t_leads a_t_order t_count t_beaten_r (out.2) t_order_r)) RX4 (by decide +kernel) rfl rfl (Nat.le_of_ble_eq_true rfl) ?_
  intro p e s m below meth c A X hK hA hP hD hS ls hl
  have hl : lv_has ls 4 [(0, .ref a_t)] := hl
  obtain ⟨hx, hb, hml, hr, hown, hts, hlocks, hN⟩ := id X
  unfold F_X4_foreseen at hf
  refine lv_iconst (v := (0 : Int32)) hx hb dX4_foreseen_0 (by decide) ?_
  refine lv_istore_n (lv' := [(1, .int (0 : Int32)), (0, .ref a_t)]) hx hb dX4_foreseen_1 rfl hl (by decide) rfl (fun ls hl => ?_)
  exact w_X4_foreseen_2 X hK hA _ (0 : Int32) t_leads_r hf _ _ hP hD hS _ (lv_sub hl [1, 0] rfl)

abbrev wd_X4_sincere (cI cZ cR : ClassId) (a_t a_t_first a_t_rank a_t_told a_t_beaten a_t_leads a_t_order : Nat) (t_count : Int32) (t_beaten_r : Nat → Int32) (t_order_r : Nat → Int32) : va_W := [(a_t, oB 4 [.ref a_t_first, .ref a_t_rank, .ref a_t_told, .ref a_t_beaten, .ref a_t_leads, .ref a_t_order, .int t_count]), (a_t_beaten, aI cI 6 t_beaten_r), (a_t_order, aI cI 6 t_order_r)]
set_option maxRecDepth 100000 in
theorem in_X4_sincere_X4 : ∀ w ∈ wsX40, w ∈ wsX4_sincere := by decide +kernel
set_option maxHeartbeats 4000000 in
set_option maxRecDepth 100000 in
theorem w_X4_sincere_9 {p : Program} {l : Launch} {e : Env} {s : State} {m : MethodId} {args : Array Value} {below : List Frame} {meth : Method} {c : Code} {D : va_G} {cI cZ cR : ClassId} {A : Nat → Prop} {a_t a_t_first a_t_rank a_t_told a_t_beaten a_t_leads a_t_order : Nat} {t_count : Int32} {t_beaten_r : Nat → Int32} {t_order_r : Nat → Int32} {out : Int32} (X : cx p s m args meth c cX4_sincere 3 (some .int) RX4 wsX4_sincere) (hK : va_K D vwCl (ty3 cI cZ cR) s) (hA : ∀ q, s.heap.size ≤ q → A q) : ∀ (n : Nat) (x1 : Int32) (x2 : Int32), F_X4_sincere_9 t_count t_beaten_r t_order_r n x1 x2 = some out → ∀ (H : Heap) (locs : List Loc), va_P D vwCl (wd_X4_sincere cI cZ cR a_t a_t_first a_t_rank a_t_told a_t_beaten a_t_leads a_t_order t_count t_beaten_r t_order_r) H → va_D A (wd_X4_sincere cI cZ cR a_t a_t_first a_t_rank a_t_told a_t_beaten a_t_leads a_t_order t_count t_beaten_r t_order_r) → va_S A s.heap H locs → ∀ (ls : Array Slot), lv_has ls 3 [(0, .ref a_t), (1, .int x1), (2, .int x2)] → W p l e (headSpec wsX4_sincere ({ frames := 2, cells := 0, slots := 0, locals := 43 } : Room)).room s m args below meth c H locs 0 0 (MQ below (qi D cI cZ cR A (out) (wd_X4_sincere cI cZ cR a_t a_t_first a_t_rank a_t_told a_t_beaten a_t_leads a_t_order t_count t_beaten_r t_order_r)) args s 0 0 A) (F0 m 9 ls []) := by
  obtain ⟨hx, hb, hml, hr, hown, hts, hlocks, hN⟩ := id X
  intro n
  induction n with
  | zero =>
    intro x1 x2 hf
    cases (show (none : Option (Int32)) = some out from hf)
  | succ n ih =>
    intro x1 x2 hf H locs hP hD hS ls hl
    rw [F_X4_sincere_9] at hf
    refine lv_iload_n hx hb dX4_sincere_9 rfl (lv_at hl 2 rfl) ?_
    refine lv_aload_n hx hb dX4_sincere_10 rfl (lv_at hl 0 rfl) ?_
    refine va_get (D := D) (ci := 4) (v := .int t_count) (C := RX4) (T := TX4) (N := 7) hx hb hts in_X4_sincere_X4 hown hK hP 0 rfl rfl 6 (by decide) (hts (.fieldLink RX4 65 "DivisionHall$Motions" "count" "I") (by decide +kernel)) (fun _ h9 => h9) rfl dX4_sincere_11 ?_
    refine lv_icmp_ge (tgt := 50) hx hb dX4_sincere_14 (by decide) (fun c2 => ?_) (fun c2 => ?_)
    · have hf := ipos c2 hf
      refine lv_iload_n hx hb dX4_sincere_50 rfl (lv_at hl 1 rfl) ?_
      cases hf
      exact reti X hK hP hD hS dX4_sincere_51
    · have hf := ineg c2 hf
      refine lv_iload_n hx hb dX4_sincere_17 rfl (lv_at hl 2 rfl) ?_
      refine lv_bipush (v := (6 : Int32)) hx hb dX4_sincere_18 (by decide) ?_
      refine lv_icmp_ge (tgt := 50) hx hb dX4_sincere_20 (by decide) (fun c3 => ?_) (fun c3 => ?_)
      · have hf := ipos c3 hf
        refine lv_iload_n hx hb dX4_sincere_50 rfl (lv_at hl 1 rfl) ?_
        cases hf
        exact reti X hK hP hD hS dX4_sincere_51
      · have hf := ineg c3 hf
        refine lv_aload_n hx hb dX4_sincere_23 rfl (lv_at hl 0 rfl) ?_
        refine lv_aload_n hx hb dX4_sincere_24 rfl (lv_at hl 0 rfl) ?_
        refine va_get (D := D) (ci := 4) (v := .ref a_t_order) (C := RX4) (T := TX4) (N := 7) hx hb hts in_X4_sincere_X4 hown hK hP 0 rfl rfl 5 (by decide) (hts (.fieldLink RX4 27 "DivisionHall$Motions" "order" "[I") (by decide +kernel)) (fun _ h9 => h9) rfl dX4_sincere_25 ?_
        refine lv_iload_n hx hb dX4_sincere_28 rfl (lv_at hl 2 rfl) ?_
        obtain ⟨hi4, hf⟩ := gin_s hf
        refine va_iald hx hb hK hP 2 0 rfl rfl hi4 dX4_sincere_29 ?_
        refine lv_iload_n hx hb dX4_sincere_30 rfl (lv_at hl 1 rfl) ?_
        obtain ⟨r5, hr6, hf⟩ := bnd hf
        refine wcalli (D := D) (cI := cI) (cZ := cZ) (cR := cR) (wc := (wd_X4_beats cI cZ cR a_t a_t_first a_t_rank a_t_told a_t_beaten a_t_leads a_t_order t_count t_beaten_r)) (w' := (wd_X4_beats cI cZ cR a_t a_t_first a_t_rank a_t_told a_t_beaten a_t_leads a_t_order t_count t_beaten_r)) [0, 1] hP hD hS hA rfl rfl rfl (rnV (As := [.int (t_order_r (x2).toNatClampNeg), .int x1]) (ci := 4) (q0 := 0) X [0, 1] hK hP hD rfl rfl rfl rfl (c_X4_beats l D cI cZ cR hr6) (cwV 2 hts gX4_sincere_X4_beats rfl rfl rfl (by decide +kernel) ⟨Nat.le_of_ble_eq_true rfl, Nat.le_of_ble_eq_true rfl⟩) rfl hl.1 rfl (Nat.le_of_ble_eq_true rfl) dX4_sincere_31) (fun H locs hP hD hS => ?_)
        have hP : va_P D vwCl (wd_X4_sincere cI cZ cR a_t a_t_first a_t_rank a_t_told a_t_beaten a_t_leads a_t_order t_count t_beaten_r t_order_r) H := hP
        have hD : va_D A (wd_X4_sincere cI cZ cR a_t a_t_first a_t_rank a_t_told a_t_beaten a_t_leads a_t_order t_count t_beaten_r t_order_r) := hD
        refine lv_if_eq (tgt := 44) hx hb dX4_sincere_34 (by decide) (fun c7 => ?_) (fun c7 => ?_)
        · have hf := ipos c7 hf
          refine lv_iinc (v := (x2 + (1 : Int32))) (lv' := [(2, .int (x2 + (1 : Int32))), (0, .ref a_t), (1, .int x1)]) hx hb dX4_sincere_44 hl (k := 2) rfl rfl (by decide) rfl (fun ls hl => ?_)
          refine lv_goto (tgt := 9) hx hb dX4_sincere_47 (by decide) ?_
          exact ih x1 (x2 + (1 : Int32)) hf _ _ hP hD hS _ (lv_sub hl [1, 2, 0] rfl)
        · have hf := ineg c7 hf
          refine lv_aload_n hx hb dX4_sincere_37 rfl (lv_at hl 0 rfl) ?_
          refine va_get (D := D) (ci := 4) (v := .ref a_t_order) (C := RX4) (T := TX4) (N := 7) hx hb hts in_X4_sincere_X4 hown hK hP 0 rfl rfl 5 (by decide) (hts (.fieldLink RX4 27 "DivisionHall$Motions" "order" "[I") (by decide +kernel)) (fun _ h9 => h9) rfl dX4_sincere_38 ?_
          refine lv_iload_n hx hb dX4_sincere_41 rfl (lv_at hl 2 rfl) ?_
          obtain ⟨hi8, hf⟩ := gin_s hf
          refine va_iald hx hb hK hP 2 0 rfl rfl hi8 dX4_sincere_42 ?_
          refine lv_istore_n (lv' := [(1, .int (t_order_r (x2).toNatClampNeg)), (0, .ref a_t), (2, .int x2)]) hx hb dX4_sincere_43 rfl hl (by decide) rfl (fun ls hl => ?_)
          refine lv_iinc (v := (x2 + (1 : Int32))) (lv' := [(2, .int (x2 + (1 : Int32))), (1, .int (t_order_r (x2).toNatClampNeg)), (0, .ref a_t)]) hx hb dX4_sincere_44 hl (k := 2) rfl rfl (by decide) rfl (fun ls hl => ?_)
          refine lv_goto (tgt := 9) hx hb dX4_sincere_47 (by decide) ?_
          exact ih (t_order_r (x2).toNatClampNeg) (x2 + (1 : Int32)) hf _ _ hP hD hS _ (lv_sub hl [2, 1, 0] rfl)
set_option maxHeartbeats 4000000 in
set_option maxRecDepth 100000 in
theorem c_X4_sincere (l : Launch) (D : va_G) (cI cZ cR : ClassId) {a_t a_t_first a_t_rank a_t_told a_t_beaten a_t_leads a_t_order : Nat} {t_count : Int32} {t_beaten_r : Nat → Int32} {t_order_r : Nat → Int32} {sz : Nat} {out : Int32} (hf : F_X4_sincere t_count t_beaten_r t_order_r = some out) : CI l yX4_sincere wsX4_sincere ({ frames := 2, cells := 0, slots := 0, locals := 43 } : Room) D cI cZ cR [.ref a_t] (wd_X4_sincere cI cZ cR a_t a_t_first a_t_rank a_t_told a_t_beaten a_t_leads a_t_order t_count t_beaten_r t_order_r) sz (out) (wd_X4_sincere cI cZ cR a_t a_t_first a_t_rank a_t_told a_t_beaten a_t_leads a_t_order t_count t_beaten_r t_order_r) := by
  refine met_of (Qf := fun A => qi D cI cZ cR A (out) (wd_X4_sincere cI cZ cR a_t a_t_first a_t_rank a_t_told a_t_beaten a_t_leads a_t_order t_count t_beaten_r t_order_r)) RX4 (by decide +kernel) rfl rfl (Nat.le_of_ble_eq_true rfl) ?_
  intro p e s m below meth c A X hK hA hP hD hS ls hl
  have hl : lv_has ls 3 [(0, .ref a_t)] := hl
  obtain ⟨hx, hb, hml, hr, hown, hts, hlocks, hN⟩ := id X
  unfold F_X4_sincere at hf
  refine lv_aload_n hx hb dX4_sincere_0 rfl (lv_at hl 0 rfl) ?_
  refine va_get (D := D) (ci := 4) (v := .ref a_t_order) (C := RX4) (T := TX4) (N := 7) hx hb hts in_X4_sincere_X4 hown hK hP 0 rfl rfl 5 (by decide) (hts (.fieldLink RX4 27 "DivisionHall$Motions" "order" "[I") (by decide +kernel)) (fun _ h9 => h9) rfl dX4_sincere_1 ?_
  refine lv_iconst (v := (0 : Int32)) hx hb dX4_sincere_4 (by decide) ?_
  obtain ⟨hi1, hf⟩ := gin_s hf
  refine va_iald hx hb hK hP 2 0 rfl rfl hi1 dX4_sincere_5 ?_
  refine lv_istore_n (lv' := [(1, .int (t_order_r ((0 : Int32)).toNatClampNeg)), (0, .ref a_t)]) hx hb dX4_sincere_6 rfl hl (by decide) rfl (fun ls hl => ?_)
  refine lv_iconst (v := (1 : Int32)) hx hb dX4_sincere_7 (by decide) ?_
  refine lv_istore_n (lv' := [(2, .int (1 : Int32)), (1, .int (t_order_r ((0 : Int32)).toNatClampNeg)), (0, .ref a_t)]) hx hb dX4_sincere_8 rfl hl (by decide) rfl (fun ls hl => ?_)
  exact w_X4_sincere_9 X hK hA _ (t_order_r ((0 : Int32)).toNatClampNeg) (1 : Int32) hf _ _ hP hD hS _ (lv_sub hl [2, 1, 0] rfl)

abbrev wd_X4_outcome (cI cZ cR : ClassId) (a_t a_t_first a_t_rank a_t_told a_t_beaten a_t_leads a_t_order : Nat) (t_count : Int32) (t_beaten_r : Nat → Int32) (t_leads_r : Nat → Int32) (t_order_r : Nat → Int32) : va_W := [(a_t, oB 4 [.ref a_t_first, .ref a_t_rank, .ref a_t_told, .ref a_t_beaten, .ref a_t_leads, .ref a_t_order, .int t_count]), (a_t_beaten, aI cI 6 t_beaten_r), (a_t_leads, aI cI 6 t_leads_r), (a_t_order, aI cI 6 t_order_r)]
set_option maxHeartbeats 4000000 in
set_option maxRecDepth 100000 in
theorem c_X4_outcome (l : Launch) (D : va_G) (cI cZ cR : ClassId) {a_t a_t_first a_t_rank a_t_told a_t_beaten a_t_leads a_t_order : Nat} {t_count : Int32} {t_beaten_r : Nat → Int32} {t_leads_r : Nat → Int32} {t_order_r : Nat → Int32} {x1 : Int32} {sz : Nat} {out : Int32 × (Nat → Int32)} (hf : F_X4_outcome x1 t_count t_beaten_r t_leads_r t_order_r = some out) : CI l yX4_outcome wsX4_outcome ({ frames := 3, cells := 0, slots := 0, locals := 66 } : Room) D cI cZ cR [.ref a_t, .int x1] (wd_X4_outcome cI cZ cR a_t a_t_first a_t_rank a_t_told a_t_beaten a_t_leads a_t_order t_count t_beaten_r t_leads_r t_order_r) sz (out.1) (wd_X4_outcome cI cZ cR a_t a_t_first a_t_rank a_t_told a_t_beaten a_t_leads a_t_order t_count t_beaten_r (out.2) t_order_r) := by
  refine met_of (Qf := fun A => qi D cI cZ cR A (out.1) (wd_X4_outcome cI cZ cR a_t a_t_first a_t_rank a_t_told a_t_beaten a_t_leads a_t_order t_count t_beaten_r (out.2) t_order_r)) RX4 (by decide +kernel) rfl rfl (Nat.le_of_ble_eq_true rfl) ?_
  intro p e s m below meth c A X hK hA hP hD hS ls hl
  have hl : lv_has ls 2 [(0, .ref a_t), (1, .int x1)] := hl
  obtain ⟨hx, hb, hml, hr, hown, hts, hlocks, hN⟩ := id X
  unfold F_X4_outcome at hf
  refine lv_iload_n hx hb dX4_outcome_0 rfl (lv_at hl 1 rfl) ?_
  refine lv_if_eq (tgt := 11) hx hb dX4_outcome_1 (by decide) (fun c1 => ?_) (fun c1 => ?_)
  · have hf := ipos c1 hf
    refine lv_aload_n hx hb dX4_outcome_11 rfl (lv_at hl 0 rfl) ?_
    obtain ⟨r2, hr3, hf⟩ := bnd hf
    refine wcalli (D := D) (cI := cI) (cZ := cZ) (cR := cR) (wc := (wd_X4_sincere cI cZ cR a_t a_t_first a_t_rank a_t_told a_t_beaten a_t_leads a_t_order t_count t_beaten_r t_order_r)) (w' := (wd_X4_sincere cI cZ cR a_t a_t_first a_t_rank a_t_told a_t_beaten a_t_leads a_t_order t_count t_beaten_r t_order_r)) [0, 1, 3] hP hD hS hA rfl rfl rfl (rnV (As := []) (ci := 4) (q0 := 0) X [0, 1, 3] hK hP hD rfl rfl rfl rfl (c_X4_sincere l D cI cZ cR hr3) (cwV 0 hts gX4_outcome_X4_sincere rfl rfl rfl (by decide +kernel) ⟨Nat.le_of_ble_eq_true rfl, Nat.le_of_ble_eq_true rfl⟩) rfl hl.1 rfl (Nat.le_of_ble_eq_true rfl) dX4_outcome_12) (fun H locs hP hD hS => ?_)
    have hP : va_P D vwCl (wd_X4_outcome cI cZ cR a_t a_t_first a_t_rank a_t_told a_t_beaten a_t_leads a_t_order t_count t_beaten_r t_leads_r t_order_r) H := hP
    have hD : va_D A (wd_X4_outcome cI cZ cR a_t a_t_first a_t_rank a_t_told a_t_beaten a_t_leads a_t_order t_count t_beaten_r t_leads_r t_order_r) := hD
    cases hf
    exact reti X hK hP hD hS dX4_outcome_15
  · have hf := ineg c1 hf
    refine lv_aload_n hx hb dX4_outcome_4 rfl (lv_at hl 0 rfl) ?_
    obtain ⟨r4, hr5, hf⟩ := bnd hf
    refine wcalliA (D := D) (cI := cI) (cZ := cZ) (cR := cR) (wc := (wd_X4_foreseen cI cZ cR a_t a_t_first a_t_rank a_t_told a_t_beaten a_t_leads a_t_order t_count t_beaten_r t_leads_r t_order_r)) (w' := (wd_X4_foreseen cI cZ cR a_t a_t_first a_t_rank a_t_told a_t_beaten a_t_leads a_t_order t_count t_beaten_r (r4.2) t_order_r)) hP hD hS hA rfl (rnVA (As := []) (ci := 4) (q0 := 0) X hK hP hD rfl rfl (c_X4_foreseen l D cI cZ cR hr5) (cwV 0 hts gX4_outcome_X4_foreseen rfl rfl rfl (by decide +kernel) ⟨Nat.le_of_ble_eq_true rfl, Nat.le_of_ble_eq_true rfl⟩) rfl hl.1 rfl (Nat.le_of_ble_eq_true rfl) dX4_outcome_5) (fun H locs hP hD hS => ?_)
    have hP : va_P D vwCl (wd_X4_outcome cI cZ cR a_t a_t_first a_t_rank a_t_told a_t_beaten a_t_leads a_t_order t_count t_beaten_r (r4.2) t_order_r) H := hP
    have hD : va_D A (wd_X4_outcome cI cZ cR a_t a_t_first a_t_rank a_t_told a_t_beaten a_t_leads a_t_order t_count t_beaten_r (r4.2) t_order_r) := hD
    refine lv_goto (tgt := 15) hx hb dX4_outcome_8 (by decide) ?_
    cases hf
    exact reti X hK hP hD hS dX4_outcome_15
