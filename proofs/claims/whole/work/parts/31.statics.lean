abbrev wd_X11_inside (cI cZ cR : ClassId) : va_W := []
set_option maxHeartbeats 4000000 in
set_option maxRecDepth 100000 in
theorem c_X11_inside (l : Launch) (D : va_G) (cI cZ cR : ClassId) {x0 : Int32} {x1 : Int32} {sz : Nat} {out : Int32} (hf : F_X11_inside x0 x1 = some out) : CI l yX11_inside wsX11_inside ({ frames := 0, cells := 0, slots := 0, locals := 0 } : Room) D cI cZ cR [.int x0, .int x1] (wd_X11_inside cI cZ cR) sz (out) (wd_X11_inside cI cZ cR) := by
  refine met_of (Qf := fun A => qi D cI cZ cR A (out) (wd_X11_inside cI cZ cR)) RX11 (by decide +kernel) rfl rfl (Nat.le_of_ble_eq_true rfl) ?_
  intro p e s m below meth c A X hK hA hP hD hS ls hl
  have hl : lv_has ls 2 [(0, .int x0), (1, .int x1)] := hl
  obtain ⟨hx, hb, hml, hr, hown, hts, hlocks, hN⟩ := id X
  unfold F_X11_inside at hf
  refine lv_iload_n hx hb dX11_inside_0 rfl (lv_at hl 0 rfl) ?_
  refine lv_if_lt (tgt := 13) hx hb dX11_inside_1 (by decide) (fun c1 => ?_) (fun c1 => ?_)
  · have hf := ipos c1 hf
    refine lv_iconst (v := (0 : Int32)) hx hb dX11_inside_13 (by decide) ?_
    cases hf
    exact retz (Or.inl rfl) X hK hP hD hS dX11_inside_14
  · have hf := ineg c1 hf
    refine lv_iload_n hx hb dX11_inside_4 rfl (lv_at hl 0 rfl) ?_
    refine lv_iload_n hx hb dX11_inside_5 rfl (lv_at hl 1 rfl) ?_
    refine lv_icmp_ge (tgt := 13) hx hb dX11_inside_6 (by decide) (fun c2 => ?_) (fun c2 => ?_)
    · have hf := ipos c2 hf
      refine lv_iconst (v := (0 : Int32)) hx hb dX11_inside_13 (by decide) ?_
      cases hf
      exact retz (Or.inl rfl) X hK hP hD hS dX11_inside_14
    · have hf := ineg c2 hf
      refine lv_iconst (v := (1 : Int32)) hx hb dX11_inside_9 (by decide) ?_
      refine lv_goto (tgt := 14) hx hb dX11_inside_10 (by decide) ?_
      cases hf
      exact retz (Or.inr rfl) X hK hP hD hS dX11_inside_14

abbrev wd_X11_has (cI cZ cR : ClassId) : va_W := []
set_option maxHeartbeats 4000000 in
set_option maxRecDepth 100000 in
theorem c_X11_has (l : Launch) (D : va_G) (cI cZ cR : ClassId) {x0 : Int32} {x1 : Int32} {sz : Nat} {out : Int32} (hf : F_X11_has x0 x1 = some out) : CI l yX11_has wsX11_has ({ frames := 0, cells := 0, slots := 0, locals := 0 } : Room) D cI cZ cR [.int x0, .int x1] (wd_X11_has cI cZ cR) sz (out) (wd_X11_has cI cZ cR) := by
  refine met_of (Qf := fun A => qi D cI cZ cR A (out) (wd_X11_has cI cZ cR)) RX11 (by decide +kernel) rfl rfl (Nat.le_of_ble_eq_true rfl) ?_
  intro p e s m below meth c A X hK hA hP hD hS ls hl
  have hl : lv_has ls 2 [(0, .int x0), (1, .int x1)] := hl
  obtain ⟨hx, hb, hml, hr, hown, hts, hlocks, hN⟩ := id X
  unfold F_X11_has at hf
  refine lv_iload_n hx hb dX11_has_0 rfl (lv_at hl 0 rfl) ?_
  refine lv_iload_n hx hb dX11_has_1 rfl (lv_at hl 1 rfl) ?_
  refine lv_ishr hx hb dX11_has_2 ?_
  refine lv_iconst (v := (1 : Int32)) hx hb dX11_has_3 (by decide) ?_
  refine lv_iand hx hb dX11_has_4 ?_
  refine lv_if_eq (tgt := 12) hx hb dX11_has_5 (by decide) (fun c1 => ?_) (fun c1 => ?_)
  · have hf := ipos c1 hf
    refine lv_iconst (v := (0 : Int32)) hx hb dX11_has_12 (by decide) ?_
    cases hf
    exact retz (Or.inl rfl) X hK hP hD hS dX11_has_13
  · have hf := ineg c1 hf
    refine lv_iconst (v := (1 : Int32)) hx hb dX11_has_8 (by decide) ?_
    refine lv_goto (tgt := 13) hx hb dX11_has_9 (by decide) ?_
    cases hf
    exact retz (Or.inr rfl) X hK hP hD hS dX11_has_13

abbrev wd_X11_isWithin (cI cZ cR : ClassId) : va_W := []
set_option maxHeartbeats 4000000 in
set_option maxRecDepth 100000 in
theorem c_X11_isWithin (l : Launch) (D : va_G) (cI cZ cR : ClassId) {x0 : Int32} {x1 : Int32} {sz : Nat} {out : Int32} (hf : F_X11_isWithin x0 x1 = some out) : CI l yX11_isWithin wsX11_isWithin ({ frames := 0, cells := 0, slots := 0, locals := 0 } : Room) D cI cZ cR [.int x0, .int x1] (wd_X11_isWithin cI cZ cR) sz (out) (wd_X11_isWithin cI cZ cR) := by
  refine met_of (Qf := fun A => qi D cI cZ cR A (out) (wd_X11_isWithin cI cZ cR)) RX11 (by decide +kernel) rfl rfl (Nat.le_of_ble_eq_true rfl) ?_
  intro p e s m below meth c A X hK hA hP hD hS ls hl
  have hl : lv_has ls 2 [(0, .int x0), (1, .int x1)] := hl
  obtain ⟨hx, hb, hml, hr, hown, hts, hlocks, hN⟩ := id X
  unfold F_X11_isWithin at hf
  refine lv_iload_n hx hb dX11_isWithin_0 rfl (lv_at hl 0 rfl) ?_
  refine lv_iload_n hx hb dX11_isWithin_1 rfl (lv_at hl 1 rfl) ?_
  refine lv_iconst (v := (-1 : Int32)) hx hb dX11_isWithin_2 (by decide) ?_
  refine lv_ixor hx hb dX11_isWithin_3 ?_
  refine lv_iand hx hb dX11_isWithin_4 ?_
  refine lv_if_ne (tgt := 12) hx hb dX11_isWithin_5 (by decide) (fun c1 => ?_) (fun c1 => ?_)
  · have hf := ineg c1 hf
    refine lv_iconst (v := (0 : Int32)) hx hb dX11_isWithin_12 (by decide) ?_
    cases hf
    exact retz (Or.inl rfl) X hK hP hD hS dX11_isWithin_13
  · have hf := ipos c1 hf
    refine lv_iconst (v := (1 : Int32)) hx hb dX11_isWithin_8 (by decide) ?_
    refine lv_goto (tgt := 13) hx hb dX11_isWithin_9 (by decide) ?_
    cases hf
    exact retz (Or.inr rfl) X hK hP hD hS dX11_isWithin_13

abbrev wd_X11_reduced (cI cZ cR : ClassId) : va_W := []
set_option maxHeartbeats 4000000 in
set_option maxRecDepth 100000 in
theorem w_X11_reduced_44 {p : Program} {l : Launch} {e : Env} {s : State} {m : MethodId} {args : Array Value} {below : List Frame} {meth : Method} {c : Code} {D : va_G} {cI cZ cR : ClassId} {A : Nat → Prop} {x0 : Int64} {out : Int64} (X : cx p s m args meth c cX11_reduced 11 (some .long) RX11 wsX11_reduced) (hK : va_K D vwCl (ty3 cI cZ cR) s) (hA : ∀ q, s.heap.size ≤ q → A q) : ∀ (x4 : Int64), F_X11_reduced_44 x0 x4 = some out → ∀ (H : Heap) (locs : List Loc), va_P D vwCl (wd_X11_reduced cI cZ cR) H → va_D A (wd_X11_reduced cI cZ cR) → va_S A s.heap H locs → ∀ (ls : Array Slot), lv_has ls 11 [(0, .long x0), (4, .long x4)] → W p l e (headSpec wsX11_reduced ({ frames := 0, cells := 0, slots := 0, locals := 0 } : Room)).room s m args below meth c H locs 0 0 (MQ below (ql D cI cZ cR A (out) (wd_X11_reduced cI cZ cR)) args s 0 0 A) (F0 m 44 ls []) := by
  obtain ⟨hx, hb, hml, hr, hown, hts, hlocks, hN⟩ := id X
  intro x4 hf H locs hP hD hS ls hl
  unfold F_X11_reduced_44 at hf
  refine lv_lload hx hb dX11_reduced_44 (lv_at hl 1 rfl) ?_
  refine lv_lconst (v := (0 : Int64)) hx hb dX11_reduced_46 (by decide) ?_
  refine W.lcmp hx hb dX11_reduced_47 ?_
  refine lv_if_ne (tgt := 55) hx hb dX11_reduced_48 (by decide) (fun c4 => ?_) (fun c4 => ?_)
  · have hf := ineg c4 hf
    refine lv_lload_n hx hb dX11_reduced_55 rfl (lv_at hl 0 rfl) ?_
    refine lv_lload hx hb dX11_reduced_56 (lv_at hl 1 rfl) ?_
    obtain ⟨hz5, hf⟩ := gnzl_s hf
    refine lv_ldiv hx hb dX11_reduced_58 hz5 ?_
    cases hf
    exact retl X hK hP hD hS dX11_reduced_59
  · have hf := ipos c4 hf
    refine lv_lconst (v := (0 : Int64)) hx hb dX11_reduced_51 (by decide) ?_
    refine lv_goto (tgt := 59) hx hb dX11_reduced_52 (by decide) ?_
    cases hf
    exact retl X hK hP hD hS dX11_reduced_59
set_option maxHeartbeats 4000000 in
set_option maxRecDepth 100000 in
theorem w_X11_reduced_9 {p : Program} {l : Launch} {e : Env} {s : State} {m : MethodId} {args : Array Value} {below : List Frame} {meth : Method} {c : Code} {D : va_G} {cI cZ cR : ClassId} {A : Nat → Prop} {x0 : Int64} {out : Int64} (X : cx p s m args meth c cX11_reduced 11 (some .long) RX11 wsX11_reduced) (hK : va_K D vwCl (ty3 cI cZ cR) s) (hA : ∀ q, s.heap.size ≤ q → A q) : ∀ (n : Nat) (x4 : Int64) (x6 : Int64) (x8 : Int32), F_X11_reduced_9 x0 n x4 x6 x8 = some out → ∀ (H : Heap) (locs : List Loc), va_P D vwCl (wd_X11_reduced cI cZ cR) H → va_D A (wd_X11_reduced cI cZ cR) → va_S A s.heap H locs → ∀ (ls : Array Slot), lv_has ls 11 [(0, .long x0), (4, .long x4), (6, .long x6), (8, .int x8)] → W p l e (headSpec wsX11_reduced ({ frames := 0, cells := 0, slots := 0, locals := 0 } : Room)).room s m args below meth c H locs 0 0 (MQ below (ql D cI cZ cR A (out) (wd_X11_reduced cI cZ cR)) args s 0 0 A) (F0 m 9 ls []) := by
  obtain ⟨hx, hb, hml, hr, hown, hts, hlocks, hN⟩ := id X
  intro n
  induction n with
  | zero =>
    intro x4 x6 x8 hf
    cases (show (none : Option (Int64)) = some out from hf)
  | succ n ih =>
    intro x4 x6 x8 hf H locs hP hD hS ls hl
    rw [F_X11_reduced_9] at hf
    refine lv_iload hx hb dX11_reduced_9 (lv_at hl 3 rfl) ?_
    refine lv_bipush (v := (100 : Int32)) hx hb dX11_reduced_11 (by decide) ?_
    refine lv_icmp_ge (tgt := 44) hx hb dX11_reduced_13 (by decide) (fun c1 => ?_) (fun c1 => ?_)
    · have hf := ipos c1 hf
      exact w_X11_reduced_44 X hK hA x4 hf _ _ hP hD hS _ (lv_sub hl [0, 1] rfl)
    · have hf := ineg c1 hf
      refine lv_lload hx hb dX11_reduced_16 (lv_at hl 2 rfl) ?_
      refine lv_lconst (v := (0 : Int64)) hx hb dX11_reduced_18 (by decide) ?_
      refine W.lcmp hx hb dX11_reduced_19 ?_
      refine lv_if_eq (tgt := 44) hx hb dX11_reduced_20 (by decide) (fun c2 => ?_) (fun c2 => ?_)
      · have hf := ipos c2 hf
        exact w_X11_reduced_44 X hK hA x4 hf _ _ hP hD hS _ (lv_sub hl [0, 1] rfl)
      · have hf := ineg c2 hf
        refine lv_lload hx hb dX11_reduced_23 (lv_at hl 1 rfl) ?_
        refine lv_lload hx hb dX11_reduced_25 (lv_at hl 2 rfl) ?_
        obtain ⟨hz3, hf⟩ := gnzl_s hf
        refine lv_lrem hx hb dX11_reduced_27 hz3 ?_
        refine lv_lstore (lv' := [(9, .long (x4 - x4 / x6 * x6)), (0, .long x0), (4, .long x4), (6, .long x6), (8, .int x8)]) hx hb dX11_reduced_28 hl (by decide) rfl (fun ls hl => ?_)
        refine lv_lload hx hb dX11_reduced_30 (lv_at hl 3 rfl) ?_
        refine lv_lstore (lv' := [(4, .long x6), (9, .long (x4 - x4 / x6 * x6)), (0, .long x0), (6, .long x6), (8, .int x8)]) hx hb dX11_reduced_32 hl (by decide) rfl (fun ls hl => ?_)
        refine lv_lload hx hb dX11_reduced_34 (lv_at hl 1 rfl) ?_
        refine lv_lstore (lv' := [(6, .long (x4 - x4 / x6 * x6)), (4, .long x6), (9, .long (x4 - x4 / x6 * x6)), (0, .long x0), (8, .int x8)]) hx hb dX11_reduced_36 hl (by decide) rfl (fun ls hl => ?_)
        refine lv_iinc (v := (x8 + (1 : Int32))) (lv' := [(8, .int (x8 + (1 : Int32))), (6, .long (x4 - x4 / x6 * x6)), (4, .long x6), (9, .long (x4 - x4 / x6 * x6)), (0, .long x0)]) hx hb dX11_reduced_38 hl (k := 4) rfl rfl (by decide) rfl (fun ls hl => ?_)
        refine lv_goto (tgt := 9) hx hb dX11_reduced_41 (by decide) ?_
        exact ih x6 (x4 - x4 / x6 * x6) (x8 + (1 : Int32)) hf _ _ hP hD hS _ (lv_sub hl [4, 2, 1, 0] rfl)
set_option maxHeartbeats 4000000 in
set_option maxRecDepth 100000 in
theorem c_X11_reduced (l : Launch) (D : va_G) (cI cZ cR : ClassId) {x0 : Int64} {x2 : Int64} {sz : Nat} {out : Int64} (hf : F_X11_reduced x0 x2 = some out) : CL l yX11_reduced wsX11_reduced ({ frames := 0, cells := 0, slots := 0, locals := 0 } : Room) D cI cZ cR [.long x0, .long x2] (wd_X11_reduced cI cZ cR) sz (out) (wd_X11_reduced cI cZ cR) := by
  refine met_of (Qf := fun A => ql D cI cZ cR A (out) (wd_X11_reduced cI cZ cR)) RX11 (by decide +kernel) rfl rfl (Nat.le_of_ble_eq_true rfl) ?_
  intro p e s m below meth c A X hK hA hP hD hS ls hl
  have hl : lv_has ls 11 [(0, .long x0), (2, .long x2)] := hl
  obtain ⟨hx, hb, hml, hr, hown, hts, hlocks, hN⟩ := id X
  unfold F_X11_reduced at hf
  refine lv_lload_n hx hb dX11_reduced_0 rfl (lv_at hl 0 rfl) ?_
  refine lv_lstore (lv' := [(4, .long x0), (0, .long x0), (2, .long x2)]) hx hb dX11_reduced_1 hl (by decide) rfl (fun ls hl => ?_)
  refine lv_lload_n hx hb dX11_reduced_3 rfl (lv_at hl 2 rfl) ?_
  refine lv_lstore (lv' := [(6, .long x2), (4, .long x0), (0, .long x0), (2, .long x2)]) hx hb dX11_reduced_4 hl (by decide) rfl (fun ls hl => ?_)
  refine lv_iconst (v := (0 : Int32)) hx hb dX11_reduced_6 (by decide) ?_
  refine lv_istore (lv' := [(8, .int (0 : Int32)), (6, .long x2), (4, .long x0), (0, .long x0), (2, .long x2)]) hx hb dX11_reduced_7 hl (by decide) rfl (fun ls hl => ?_)
  exact w_X11_reduced_9 X hK hA _ x0 x2 (0 : Int32) hf _ _ hP hD hS _ (lv_sub hl [3, 2, 1, 0] rfl)
