abbrev wd_X0_handOut (cI cZ cR : ClassId) (a_t a_t_values a_t_weight a_t_choices a_t_chooser a_t_owner a_t_held a_t_pick a_t_gain : Nat) (t_count : Int32) (t_chooser_r : Nat → Int32) (t_gain_r : Nat → Int32) (t_held_r : Nat → Int32) (t_owner_r : Nat → Int32) (t_pick_r : Nat → Int32) (t_values_r : Nat → Int32) : va_W := [(a_t, oB 0 [.ref a_t_values, .ref a_t_weight, .ref a_t_choices, .ref a_t_chooser, .ref a_t_owner, .ref a_t_held, .ref a_t_pick, .ref a_t_gain, .int t_count]), (a_t_chooser, aI cI 8 t_chooser_r), (a_t_gain, aI cI 1536 t_gain_r), (a_t_held, aI cI 6 t_held_r), (a_t_owner, aI cI 8 t_owner_r), (a_t_pick, aI cI 256 t_pick_r), (a_t_values, aI cI 48 t_values_r)]
set_option maxRecDepth 100000 in
theorem in_X0_handOut_X0 : ∀ w ∈ wsX00, w ∈ wsX0_handOut := by decide +kernel
set_option maxHeartbeats 4000000 in
set_option maxRecDepth 100000 in
theorem w_X0_handOut_118 {p : Program} {l : Launch} {e : Env} {s : State} {m : MethodId} {args : Array Value} {below : List Frame} {meth : Method} {c : Code} {D : va_G} {cI cZ cR : ClassId} {A : Nat → Prop} {a_t a_t_values a_t_weight a_t_choices a_t_chooser a_t_owner a_t_held a_t_pick a_t_gain : Nat} {t_count : Int32} {t_chooser_r : Nat → Int32} {t_values_r : Nat → Int32} {x3 : Int32} {rec60 : Int32 → Int32 → (Nat → Int32) → (Nat → Int32) → (Nat → Int32) → (Nat → Int32) → Option ((Nat → Int32) × (Nat → Int32) × (Nat → Int32) × (Nat → Int32))} {out : (Nat → Int32) × (Nat → Int32) × (Nat → Int32) × (Nat → Int32)} (X : cx p s m args meth c cX0_handOut 8 none RX0 wsX0_handOut) (hK : va_K D vwCl (ty3 cI cZ cR) s) (hA : ∀ q, s.heap.size ≤ q → A q) (hrec60 : ∀ (x4 : Int32) (x5 : Int32) (t_gain_r : Nat → Int32) (t_held_r : Nat → Int32) (t_owner_r : Nat → Int32) (t_pick_r : Nat → Int32), rec60 x4 x5 t_gain_r t_held_r t_owner_r t_pick_r = some out → ∀ (H : Heap) (locs : List Loc), va_P D vwCl (wd_X0_handOut cI cZ cR a_t a_t_values a_t_weight a_t_choices a_t_chooser a_t_owner a_t_held a_t_pick a_t_gain t_count t_chooser_r t_gain_r t_held_r t_owner_r t_pick_r t_values_r) H → va_D A (wd_X0_handOut cI cZ cR a_t a_t_values a_t_weight a_t_choices a_t_chooser a_t_owner a_t_held a_t_pick a_t_gain t_count t_chooser_r t_gain_r t_held_r t_owner_r t_pick_r t_values_r) → va_S A s.heap H locs → ∀ (ls : Array Slot), lv_has ls 8 [(0, .ref a_t), (3, .int x3), (4, .int x4), (5, .int x5)] → W p l e (headSpec wsX0_handOut ({ frames := 4, cells := 0, slots := 0, locals := 92 } : Room)).room s m args below meth c H locs 0 0 (MQ below (qv D cI cZ cR A (wd_X0_handOut cI cZ cR a_t a_t_values a_t_weight a_t_choices a_t_chooser a_t_owner a_t_held a_t_pick a_t_gain t_count t_chooser_r (out.1) (out.2.1) (out.2.2.1) (out.2.2.2) t_values_r)) args s 0 0 A) (F0 m 60 ls [])) : ∀ (x4 : Int32) (x5 : Int32) (x6 : Int32) (s0 : Int32) (t_gain_r : Nat → Int32) (t_held_r : Nat → Int32) (t_owner_r : Nat → Int32) (t_pick_r : Nat → Int32), F_X0_handOut_118 x3 t_count t_chooser_r t_values_r rec60 x4 x5 x6 s0 t_gain_r t_held_r t_owner_r t_pick_r = some out → ∀ (H : Heap) (locs : List Loc), va_P D vwCl (wd_X0_handOut cI cZ cR a_t a_t_values a_t_weight a_t_choices a_t_chooser a_t_owner a_t_held a_t_pick a_t_gain t_count t_chooser_r t_gain_r t_held_r t_owner_r t_pick_r t_values_r) H → va_D A (wd_X0_handOut cI cZ cR a_t a_t_values a_t_weight a_t_choices a_t_chooser a_t_owner a_t_held a_t_pick a_t_gain t_count t_chooser_r t_gain_r t_held_r t_owner_r t_pick_r t_values_r) → va_S A s.heap H locs → ∀ (ls : Array Slot), lv_has ls 8 [(0, .ref a_t), (3, .int x3), (4, .int x4), (5, .int x5), (6, .int x6)] → W p l e (headSpec wsX0_handOut ({ frames := 4, cells := 0, slots := 0, locals := 92 } : Room)).room s m args below meth c H locs 0 0 (MQ below (qv D cI cZ cR A (wd_X0_handOut cI cZ cR a_t a_t_values a_t_weight a_t_choices a_t_chooser a_t_owner a_t_held a_t_pick a_t_gain t_count t_chooser_r (out.1) (out.2.1) (out.2.2.1) (out.2.2.2) t_values_r)) args s 0 0 A) (F0 m 118 ls [.int s0]) := by
  obtain ⟨hx, hb, hml, hr, hown, hts, hlocks, hN⟩ := id X
  intro x4 x5 x6 s0 t_gain_r t_held_r t_owner_r t_pick_r hf H locs hP hD hS ls hl
  unfold F_X0_handOut_118 at hf
  refine lv_istore (lv' := [(7, .int s0), (0, .ref a_t), (3, .int x3), (4, .int x4), (5, .int x5), (6, .int x6)]) hx hb dX0_handOut_118 hl (by decide) rfl (fun ls hl => ?_)
  refine lv_iload hx hb dX0_handOut_120 (lv_at hl 0 rfl) ?_
  refine lv_bipush (v := (8 : Int32)) hx hb dX0_handOut_122 (by decide) ?_
  obtain ⟨r24, hr25, hf⟩ := bnd hf
  refine wcalli (D := D) (cI := cI) (cZ := cZ) (cR := cR) (wc := (wd_X11_inside cI cZ cR)) (w' := (wd_X11_inside cI cZ cR)) [] hP hD hS hA rfl rfl rfl (rnSN (As := [.int s0, .int (8 : Int32)]) X [] hK hP hD rfl rfl (c_X11_inside l D cI cZ cR hr25) ⟨va_cnB (host := "DivisionHall") 2 hts ggX0_handOut_X11_inside rfl rfl rfl (hN.2.1 ("DivisionHall$Dealer", 36, yX11_inside, "DivisionHall") (by decide +kernel)) (hts (.initialized RX11) (by decide +kernel)) (by decide +kernel) ⟨Nat.le_of_ble_eq_true rfl, Nat.le_of_ble_eq_true rfl⟩, hts (.static yX11_inside) (by decide +kernel), trivial⟩ rfl hl.1 rfl (Nat.le_of_ble_eq_true rfl) dX0_handOut_124) (fun H locs hP hD hS => ?_)
  have hP : va_P D vwCl (wd_X0_handOut cI cZ cR a_t a_t_values a_t_weight a_t_choices a_t_chooser a_t_owner a_t_held a_t_pick a_t_gain t_count t_chooser_r t_gain_r t_held_r t_owner_r t_pick_r t_values_r) H := hP
  have hD : va_D A (wd_X0_handOut cI cZ cR a_t a_t_values a_t_weight a_t_choices a_t_chooser a_t_owner a_t_held a_t_pick a_t_gain t_count t_chooser_r t_gain_r t_held_r t_owner_r t_pick_r t_values_r) := hD
  refine lv_if_eq (tgt := 178) hx hb dX0_handOut_127 (by decide) (fun c26 => ?_) (fun c26 => ?_)
  · have hf := ipos c26 hf
    refine lv_iinc (v := (x5 + (1 : Int32))) (lv' := [(5, .int (x5 + (1 : Int32))), (7, .int s0), (0, .ref a_t), (3, .int x3), (4, .int x4), (6, .int x6)]) hx hb dX0_handOut_178 hl (k := 4) rfl rfl (by decide) rfl (fun ls hl => ?_)
    refine lv_goto (tgt := 60) hx hb dX0_handOut_181 (by decide) ?_
    exact hrec60 x4 (x5 + (1 : Int32)) t_gain_r t_held_r t_owner_r t_pick_r hf _ _ hP hD hS _ (lv_sub hl [2, 3, 4, 0] rfl)
  · have hf := ineg c26 hf
    refine lv_iload hx hb dX0_handOut_130 (lv_at hl 5 rfl) ?_
    refine lv_bipush (v := (6 : Int32)) hx hb dX0_handOut_132 (by decide) ?_
    obtain ⟨r27, hr28, hf⟩ := bnd hf
    refine wcalli (D := D) (cI := cI) (cZ := cZ) (cR := cR) (wc := (wd_X11_inside cI cZ cR)) (w' := (wd_X11_inside cI cZ cR)) [] hP hD hS hA rfl rfl rfl (rnSN (As := [.int x6, .int (6 : Int32)]) X [] hK hP hD rfl rfl (c_X11_inside l D cI cZ cR hr28) ⟨va_cnB (host := "DivisionHall") 2 hts ggX0_handOut_X11_inside rfl rfl rfl (hN.2.1 ("DivisionHall$Dealer", 36, yX11_inside, "DivisionHall") (by decide +kernel)) (hts (.initialized RX11) (by decide +kernel)) (by decide +kernel) ⟨Nat.le_of_ble_eq_true rfl, Nat.le_of_ble_eq_true rfl⟩, hts (.static yX11_inside) (by decide +kernel), trivial⟩ rfl hl.1 rfl (Nat.le_of_ble_eq_true rfl) dX0_handOut_134) (fun H locs hP hD hS => ?_)
    have hP : va_P D vwCl (wd_X0_handOut cI cZ cR a_t a_t_values a_t_weight a_t_choices a_t_chooser a_t_owner a_t_held a_t_pick a_t_gain t_count t_chooser_r t_gain_r t_held_r t_owner_r t_pick_r t_values_r) H := hP
    have hD : va_D A (wd_X0_handOut cI cZ cR a_t a_t_values a_t_weight a_t_choices a_t_chooser a_t_owner a_t_held a_t_pick a_t_gain t_count t_chooser_r t_gain_r t_held_r t_owner_r t_pick_r t_values_r) := hD
    refine lv_if_eq (tgt := 178) hx hb dX0_handOut_137 (by decide) (fun c29 => ?_) (fun c29 => ?_)
    · have hf := ipos c29 hf
      refine lv_iinc (v := (x5 + (1 : Int32))) (lv' := [(5, .int (x5 + (1 : Int32))), (7, .int s0), (0, .ref a_t), (3, .int x3), (4, .int x4), (6, .int x6)]) hx hb dX0_handOut_178 hl (k := 4) rfl rfl (by decide) rfl (fun ls hl => ?_)
      refine lv_goto (tgt := 60) hx hb dX0_handOut_181 (by decide) ?_
      exact hrec60 x4 (x5 + (1 : Int32)) t_gain_r t_held_r t_owner_r t_pick_r hf _ _ hP hD hS _ (lv_sub hl [2, 3, 4, 0] rfl)
    · have hf := ineg c29 hf
      refine lv_aload_n hx hb dX0_handOut_140 rfl (lv_at hl 1 rfl) ?_
      refine va_get (D := D) (ci := 0) (v := .ref a_t_owner) (C := RX0) (T := TX0) (N := 9) hx hb hts in_X0_handOut_X0 hown hK hP 0 rfl rfl 4 (by decide) (hts (.fieldLink RX0 24 "DivisionHall$Dealer" "owner" "[I") (by decide +kernel)) (fun _ h9 => h9) rfl dX0_handOut_141 ?_
      refine lv_iload hx hb dX0_handOut_144 (lv_at hl 0 rfl) ?_
      refine lv_iload hx hb dX0_handOut_146 (lv_at hl 5 rfl) ?_
      obtain ⟨hi30, hf⟩ := gin_s hf
      refine va_iast hx hb hK hP hD hS 4 0 rfl rfl hi30 dX0_handOut_148 (fun H locs hP hD hS => ?_)
      have hP : va_P D vwCl (wd_X0_handOut cI cZ cR a_t a_t_values a_t_weight a_t_choices a_t_chooser a_t_owner a_t_held a_t_pick a_t_gain t_count t_chooser_r t_gain_r t_held_r (upd t_owner_r (s0).toNatClampNeg x6) t_pick_r t_values_r) H := hP
      have hD : va_D A (wd_X0_handOut cI cZ cR a_t a_t_values a_t_weight a_t_choices a_t_chooser a_t_owner a_t_held a_t_pick a_t_gain t_count t_chooser_r t_gain_r t_held_r (upd t_owner_r (s0).toNatClampNeg x6) t_pick_r t_values_r) := hD
      refine lv_aload_n hx hb dX0_handOut_149 rfl (lv_at hl 1 rfl) ?_
      refine va_get (D := D) (ci := 0) (v := .ref a_t_held) (C := RX0) (T := TX0) (N := 9) hx hb hts in_X0_handOut_X0 hown hK hP 0 rfl rfl 5 (by decide) (hts (.fieldLink RX0 27 "DivisionHall$Dealer" "held" "[I") (by decide +kernel)) (fun _ h9 => h9) rfl dX0_handOut_150 ?_
      refine lv_iload hx hb dX0_handOut_153 (lv_at hl 5 rfl) ?_
      refine lv_dup2_11 hx hb dX0_handOut_155 rfl rfl ?_
      obtain ⟨hi31, hf⟩ := gin_s hf
      refine va_iald hx hb hK hP 3 0 rfl rfl hi31 dX0_handOut_156 ?_
      refine lv_aload_n hx hb dX0_handOut_157 rfl (lv_at hl 1 rfl) ?_
      refine lv_iload hx hb dX0_handOut_158 (lv_at hl 0 rfl) ?_
      refine lv_iload hx hb dX0_handOut_160 (lv_at hl 5 rfl) ?_
      obtain ⟨r32, hr33, hf⟩ := bnd hf
      refine wcalli (D := D) (cI := cI) (cZ := cZ) (cR := cR) (wc := (wd_X0_priceOf cI cZ cR a_t a_t_values a_t_weight a_t_choices a_t_chooser a_t_owner a_t_held a_t_pick a_t_gain t_count t_values_r)) (w' := (wd_X0_priceOf cI cZ cR a_t a_t_values a_t_weight a_t_choices a_t_chooser a_t_owner a_t_held a_t_pick a_t_gain t_count t_values_r)) [0, 6] hP hD hS hA rfl rfl rfl (rnV (As := [.int s0, .int x6]) (ci := 0) (q0 := 0) X [0, 6] hK hP hD rfl rfl rfl rfl (c_X0_priceOf l D cI cZ cR hr33) (cwV 2 hts gX0_handOut_X0_priceOf rfl rfl rfl (by decide +kernel) ⟨Nat.le_of_ble_eq_true rfl, Nat.le_of_ble_eq_true rfl⟩) rfl hl.1 rfl (Nat.le_of_ble_eq_true rfl) dX0_handOut_162) (fun H locs hP hD hS => ?_)
      have hP : va_P D vwCl (wd_X0_handOut cI cZ cR a_t a_t_values a_t_weight a_t_choices a_t_chooser a_t_owner a_t_held a_t_pick a_t_gain t_count t_chooser_r t_gain_r t_held_r (upd t_owner_r (s0).toNatClampNeg x6) t_pick_r t_values_r) H := hP
      have hD : va_D A (wd_X0_handOut cI cZ cR a_t a_t_values a_t_weight a_t_choices a_t_chooser a_t_owner a_t_held a_t_pick a_t_gain t_count t_chooser_r t_gain_r t_held_r (upd t_owner_r (s0).toNatClampNeg x6) t_pick_r t_values_r) := hD
      refine lv_iadd hx hb dX0_handOut_165 ?_
      obtain ⟨hi34, hf⟩ := gin_s hf
      refine va_iast hx hb hK hP hD hS 3 0 rfl rfl hi34 dX0_handOut_166 (fun H locs hP hD hS => ?_)
      have hP : va_P D vwCl (wd_X0_handOut cI cZ cR a_t a_t_values a_t_weight a_t_choices a_t_chooser a_t_owner a_t_held a_t_pick a_t_gain t_count t_chooser_r t_gain_r (upd t_held_r (x6).toNatClampNeg ((t_held_r (x6).toNatClampNeg) + r32)) (upd t_owner_r (s0).toNatClampNeg x6) t_pick_r t_values_r) H := hP
      have hD : va_D A (wd_X0_handOut cI cZ cR a_t a_t_values a_t_weight a_t_choices a_t_chooser a_t_owner a_t_held a_t_pick a_t_gain t_count t_chooser_r t_gain_r (upd t_held_r (x6).toNatClampNeg ((t_held_r (x6).toNatClampNeg) + r32)) (upd t_owner_r (s0).toNatClampNeg x6) t_pick_r t_values_r) := hD
      refine lv_iload hx hb dX0_handOut_167 (lv_at hl 3 rfl) ?_
      refine lv_iconst (v := (1 : Int32)) hx hb dX0_handOut_169 (by decide) ?_
      refine lv_iload hx hb dX0_handOut_170 (lv_at hl 0 rfl) ?_
      refine lv_ishl hx hb dX0_handOut_172 ?_
      refine lv_iconst (v := (-1 : Int32)) hx hb dX0_handOut_173 (by decide) ?_
      refine lv_ixor hx hb dX0_handOut_174 ?_
      refine lv_iand hx hb dX0_handOut_175 ?_
      refine lv_istore (lv' := [(4, .int (x4 &&& (((1 : Int32) <<< (s0 &&& 31)) ^^^ (-1 : Int32)))), (7, .int s0), (0, .ref a_t), (3, .int x3), (5, .int x5), (6, .int x6)]) hx hb dX0_handOut_176 hl (by decide) rfl (fun ls hl => ?_)
      refine lv_iinc (v := (x5 + (1 : Int32))) (lv' := [(5, .int (x5 + (1 : Int32))), (4, .int (x4 &&& (((1 : Int32) <<< (s0 &&& 31)) ^^^ (-1 : Int32)))), (7, .int s0), (0, .ref a_t), (3, .int x3), (6, .int x6)]) hx hb dX0_handOut_178 hl (k := 4) rfl rfl (by decide) rfl (fun ls hl => ?_)
      refine lv_goto (tgt := 60) hx hb dX0_handOut_181 (by decide) ?_
      exact hrec60 (x4 &&& (((1 : Int32) <<< (s0 &&& 31)) ^^^ (-1 : Int32))) (x5 + (1 : Int32)) t_gain_r (upd t_held_r (x6).toNatClampNeg ((t_held_r (x6).toNatClampNeg) + r32)) (upd t_owner_r (s0).toNatClampNeg x6) t_pick_r hf _ _ hP hD hS _ (lv_sub hl [3, 4, 1, 0] rfl)
set_option maxHeartbeats 4000000 in
set_option maxRecDepth 100000 in
theorem w_X0_handOut_60 {p : Program} {l : Launch} {e : Env} {s : State} {m : MethodId} {args : Array Value} {below : List Frame} {meth : Method} {c : Code} {D : va_G} {cI cZ cR : ClassId} {A : Nat → Prop} {a_t a_t_values a_t_weight a_t_choices a_t_chooser a_t_owner a_t_held a_t_pick a_t_gain : Nat} {t_count : Int32} {t_chooser_r : Nat → Int32} {t_values_r : Nat → Int32} {x3 : Int32} {out : (Nat → Int32) × (Nat → Int32) × (Nat → Int32) × (Nat → Int32)} (X : cx p s m args meth c cX0_handOut 8 none RX0 wsX0_handOut) (hK : va_K D vwCl (ty3 cI cZ cR) s) (hA : ∀ q, s.heap.size ≤ q → A q) : ∀ (n : Nat) (x4 : Int32) (x5 : Int32) (t_gain_r : Nat → Int32) (t_held_r : Nat → Int32) (t_owner_r : Nat → Int32) (t_pick_r : Nat → Int32), F_X0_handOut_60 x3 t_count t_chooser_r t_values_r n x4 x5 t_gain_r t_held_r t_owner_r t_pick_r = some out → ∀ (H : Heap) (locs : List Loc), va_P D vwCl (wd_X0_handOut cI cZ cR a_t a_t_values a_t_weight a_t_choices a_t_chooser a_t_owner a_t_held a_t_pick a_t_gain t_count t_chooser_r t_gain_r t_held_r t_owner_r t_pick_r t_values_r) H → va_D A (wd_X0_handOut cI cZ cR a_t a_t_values a_t_weight a_t_choices a_t_chooser a_t_owner a_t_held a_t_pick a_t_gain t_count t_chooser_r t_gain_r t_held_r t_owner_r t_pick_r t_values_r) → va_S A s.heap H locs → ∀ (ls : Array Slot), lv_has ls 8 [(0, .ref a_t), (3, .int x3), (4, .int x4), (5, .int x5)] → W p l e (headSpec wsX0_handOut ({ frames := 4, cells := 0, slots := 0, locals := 92 } : Room)).room s m args below meth c H locs 0 0 (MQ below (qv D cI cZ cR A (wd_X0_handOut cI cZ cR a_t a_t_values a_t_weight a_t_choices a_t_chooser a_t_owner a_t_held a_t_pick a_t_gain t_count t_chooser_r (out.1) (out.2.1) (out.2.2.1) (out.2.2.2) t_values_r)) args s 0 0 A) (F0 m 60 ls []) := by
  obtain ⟨hx, hb, hml, hr, hown, hts, hlocks, hN⟩ := id X
  intro n
  induction n with
  | zero =>
    intro x4 x5 t_gain_r t_held_r t_owner_r t_pick_r hf
    cases (show (none : Option ((Nat → Int32) × (Nat → Int32) × (Nat → Int32) × (Nat → Int32))) = some out from hf)
  | succ n ih =>
    intro x4 x5 t_gain_r t_held_r t_owner_r t_pick_r hf H locs hP hD hS ls hl
    rw [F_X0_handOut_60] at hf
    refine lv_iload hx hb dX0_handOut_60 (lv_at hl 3 rfl) ?_
    refine lv_aload_n hx hb dX0_handOut_62 rfl (lv_at hl 0 rfl) ?_
    refine va_get (D := D) (ci := 0) (v := .int t_count) (C := RX0) (T := TX0) (N := 9) hx hb hts in_X0_handOut_X0 hown hK hP 0 rfl rfl 8 (by decide) (hts (.fieldLink RX0 64 "DivisionHall$Dealer" "count" "I") (by decide +kernel)) (fun _ h9 => h9) rfl dX0_handOut_63 ?_
    refine lv_icmp_ge (tgt := 184) hx hb dX0_handOut_66 (by decide) (fun c12 => ?_) (fun c12 => ?_)
    · have hf := ipos c12 hf
      cases hf
      exact retv X hK hP hD hS dX0_handOut_184
    · have hf := ineg c12 hf
      refine lv_iload hx hb dX0_handOut_69 (lv_at hl 3 rfl) ?_
      refine lv_bipush (v := (8 : Int32)) hx hb dX0_handOut_71 (by decide) ?_
      refine lv_icmp_ge (tgt := 184) hx hb dX0_handOut_73 (by decide) (fun c13 => ?_) (fun c13 => ?_)
      · have hf := ipos c13 hf
        cases hf
        exact retv X hK hP hD hS dX0_handOut_184
      · have hf := ineg c13 hf
        refine lv_aload_n hx hb dX0_handOut_76 rfl (lv_at hl 0 rfl) ?_
        refine va_get (D := D) (ci := 0) (v := .ref a_t_chooser) (C := RX0) (T := TX0) (N := 9) hx hb hts in_X0_handOut_X0 hown hK hP 0 rfl rfl 3 (by decide) (hts (.fieldLink RX0 21 "DivisionHall$Dealer" "chooser" "[I") (by decide +kernel)) (fun _ h9 => h9) rfl dX0_handOut_77 ?_
        refine lv_iload hx hb dX0_handOut_80 (lv_at hl 3 rfl) ?_
        obtain ⟨hi14, hf⟩ := gin_s hf
        refine va_iald hx hb hK hP 1 0 rfl rfl hi14 dX0_handOut_82 ?_
        refine lv_istore (lv' := [(6, .int (t_chooser_r (x5).toNatClampNeg)), (0, .ref a_t), (3, .int x3), (4, .int x4), (5, .int x5)]) hx hb dX0_handOut_83 hl (by decide) rfl (fun ls hl => ?_)
        refine lv_iload_n hx hb dX0_handOut_85 rfl (lv_at hl 2 rfl) ?_
        refine lv_if_eq (tgt := 110) hx hb dX0_handOut_86 (by decide) (fun c15 => ?_) (fun c15 => ?_)
        · have hf := ipos c15 hf
          refine lv_aload_n hx hb dX0_handOut_110 rfl (lv_at hl 1 rfl) ?_
          refine lv_iload hx hb dX0_handOut_111 (lv_at hl 3 rfl) ?_
          refine lv_iload hx hb dX0_handOut_113 (lv_at hl 0 rfl) ?_
          obtain ⟨r16, hr17, hf⟩ := bnd hf
          refine wcalli (D := D) (cI := cI) (cZ := cZ) (cR := cR) (wc := (wd_X0_dearest cI cZ cR a_t a_t_values a_t_weight a_t_choices a_t_chooser a_t_owner a_t_held a_t_pick a_t_gain t_count t_values_r)) (w' := (wd_X0_dearest cI cZ cR a_t a_t_values a_t_weight a_t_choices a_t_chooser a_t_owner a_t_held a_t_pick a_t_gain t_count t_values_r)) [0, 6] hP hD hS hA rfl rfl rfl (rnV (As := [.int x4, .int (t_chooser_r (x5).toNatClampNeg)]) (ci := 0) (q0 := 0) X [0, 6] hK hP hD rfl rfl rfl rfl (c_X0_dearest l D cI cZ cR hr17) (cwV 2 hts gX0_handOut_X0_dearest rfl rfl rfl (by decide +kernel) ⟨Nat.le_of_ble_eq_true rfl, Nat.le_of_ble_eq_true rfl⟩) rfl hl.1 rfl (Nat.le_of_ble_eq_true rfl) dX0_handOut_115) (fun H locs hP hD hS => ?_)
          have hP : va_P D vwCl (wd_X0_handOut cI cZ cR a_t a_t_values a_t_weight a_t_choices a_t_chooser a_t_owner a_t_held a_t_pick a_t_gain t_count t_chooser_r t_gain_r t_held_r t_owner_r t_pick_r t_values_r) H := hP
          have hD : va_D A (wd_X0_handOut cI cZ cR a_t a_t_values a_t_weight a_t_choices a_t_chooser a_t_owner a_t_held a_t_pick a_t_gain t_count t_chooser_r t_gain_r t_held_r t_owner_r t_pick_r t_values_r) := hD
          exact w_X0_handOut_118 X hK hA ih x4 x5 (t_chooser_r (x5).toNatClampNeg) r16 t_gain_r t_held_r t_owner_r t_pick_r hf _ _ hP hD hS _ (lv_sub hl [1, 2, 3, 4, 0] rfl)
        · have hf := ineg c15 hf
          refine lv_iload hx hb dX0_handOut_89 (lv_at hl 3 rfl) ?_
          refine lv_sipush (v := (256 : Int32)) hx hb dX0_handOut_91 (by decide) ?_
          obtain ⟨r18, hr19, hf⟩ := bnd hf
          refine wcalli (D := D) (cI := cI) (cZ := cZ) (cR := cR) (wc := (wd_X11_inside cI cZ cR)) (w' := (wd_X11_inside cI cZ cR)) [] hP hD hS hA rfl rfl rfl (rnSN (As := [.int x4, .int (256 : Int32)]) X [] hK hP hD rfl rfl (c_X11_inside l D cI cZ cR hr19) ⟨va_cnB (host := "DivisionHall") 2 hts ggX0_handOut_X11_inside rfl rfl rfl (hN.2.1 ("DivisionHall$Dealer", 36, yX11_inside, "DivisionHall") (by decide +kernel)) (hts (.initialized RX11) (by decide +kernel)) (by decide +kernel) ⟨Nat.le_of_ble_eq_true rfl, Nat.le_of_ble_eq_true rfl⟩, hts (.static yX11_inside) (by decide +kernel), trivial⟩ rfl hl.1 rfl (Nat.le_of_ble_eq_true rfl) dX0_handOut_94) (fun H locs hP hD hS => ?_)
          have hP : va_P D vwCl (wd_X0_handOut cI cZ cR a_t a_t_values a_t_weight a_t_choices a_t_chooser a_t_owner a_t_held a_t_pick a_t_gain t_count t_chooser_r t_gain_r t_held_r t_owner_r t_pick_r t_values_r) H := hP
          have hD : va_D A (wd_X0_handOut cI cZ cR a_t a_t_values a_t_weight a_t_choices a_t_chooser a_t_owner a_t_held a_t_pick a_t_gain t_count t_chooser_r t_gain_r t_held_r t_owner_r t_pick_r t_values_r) := hD
          refine lv_if_eq (tgt := 110) hx hb dX0_handOut_97 (by decide) (fun c20 => ?_) (fun c20 => ?_)
          · have hf := ipos c20 hf
            refine lv_aload_n hx hb dX0_handOut_110 rfl (lv_at hl 1 rfl) ?_
            refine lv_iload hx hb dX0_handOut_111 (lv_at hl 3 rfl) ?_
            refine lv_iload hx hb dX0_handOut_113 (lv_at hl 0 rfl) ?_
            obtain ⟨r21, hr22, hf⟩ := bnd hf
            refine wcalli (D := D) (cI := cI) (cZ := cZ) (cR := cR) (wc := (wd_X0_dearest cI cZ cR a_t a_t_values a_t_weight a_t_choices a_t_chooser a_t_owner a_t_held a_t_pick a_t_gain t_count t_values_r)) (w' := (wd_X0_dearest cI cZ cR a_t a_t_values a_t_weight a_t_choices a_t_chooser a_t_owner a_t_held a_t_pick a_t_gain t_count t_values_r)) [0, 6] hP hD hS hA rfl rfl rfl (rnV (As := [.int x4, .int (t_chooser_r (x5).toNatClampNeg)]) (ci := 0) (q0 := 0) X [0, 6] hK hP hD rfl rfl rfl rfl (c_X0_dearest l D cI cZ cR hr22) (cwV 2 hts gX0_handOut_X0_dearest rfl rfl rfl (by decide +kernel) ⟨Nat.le_of_ble_eq_true rfl, Nat.le_of_ble_eq_true rfl⟩) rfl hl.1 rfl (Nat.le_of_ble_eq_true rfl) dX0_handOut_115) (fun H locs hP hD hS => ?_)
            have hP : va_P D vwCl (wd_X0_handOut cI cZ cR a_t a_t_values a_t_weight a_t_choices a_t_chooser a_t_owner a_t_held a_t_pick a_t_gain t_count t_chooser_r t_gain_r t_held_r t_owner_r t_pick_r t_values_r) H := hP
            have hD : va_D A (wd_X0_handOut cI cZ cR a_t a_t_values a_t_weight a_t_choices a_t_chooser a_t_owner a_t_held a_t_pick a_t_gain t_count t_chooser_r t_gain_r t_held_r t_owner_r t_pick_r t_values_r) := hD
            exact w_X0_handOut_118 X hK hA ih x4 x5 (t_chooser_r (x5).toNatClampNeg) r21 t_gain_r t_held_r t_owner_r t_pick_r hf _ _ hP hD hS _ (lv_sub hl [1, 2, 3, 4, 0] rfl)
          · have hf := ineg c20 hf
            refine lv_aload_n hx hb dX0_handOut_100 rfl (lv_at hl 1 rfl) ?_
            refine va_get (D := D) (ci := 0) (v := .ref a_t_pick) (C := RX0) (T := TX0) (N := 9) hx hb hts in_X0_handOut_X0 hown hK hP 0 rfl rfl 6 (by decide) (hts (.fieldLink RX0 30 "DivisionHall$Dealer" "pick" "[I") (by decide +kernel)) (fun _ h9 => h9) rfl dX0_handOut_101 ?_
            refine lv_iload hx hb dX0_handOut_104 (lv_at hl 3 rfl) ?_
            obtain ⟨hi23, hf⟩ := gin_s hf
            refine va_iald hx hb hK hP 5 0 rfl rfl hi23 dX0_handOut_106 ?_
            refine lv_goto (tgt := 118) hx hb dX0_handOut_107 (by decide) ?_
            exact w_X0_handOut_118 X hK hA ih x4 x5 (t_chooser_r (x5).toNatClampNeg) (t_pick_r (x4).toNatClampNeg) t_gain_r t_held_r t_owner_r t_pick_r hf _ _ hP hD hS _ (lv_sub hl [1, 2, 3, 4, 0] rfl)
set_option maxHeartbeats 4000000 in
set_option maxRecDepth 100000 in
theorem w_X0_handOut_45 {p : Program} {l : Launch} {e : Env} {s : State} {m : MethodId} {args : Array Value} {below : List Frame} {meth : Method} {c : Code} {D : va_G} {cI cZ cR : ClassId} {A : Nat → Prop} {a_t a_t_values a_t_weight a_t_choices a_t_chooser a_t_owner a_t_held a_t_pick a_t_gain : Nat} {t_count : Int32} {t_chooser_r : Nat → Int32} {t_values_r : Nat → Int32} {x2 : Int32} {x3 : Int32} {out : (Nat → Int32) × (Nat → Int32) × (Nat → Int32) × (Nat → Int32)} (X : cx p s m args meth c cX0_handOut 8 none RX0 wsX0_handOut) (hK : va_K D vwCl (ty3 cI cZ cR) s) (hA : ∀ q, s.heap.size ≤ q → A q) : ∀ (t_gain_r : Nat → Int32) (t_held_r : Nat → Int32) (t_owner_r : Nat → Int32) (t_pick_r : Nat → Int32), F_X0_handOut_45 x2 x3 t_count t_chooser_r t_values_r t_gain_r t_held_r t_owner_r t_pick_r = some out → ∀ (H : Heap) (locs : List Loc), va_P D vwCl (wd_X0_handOut cI cZ cR a_t a_t_values a_t_weight a_t_choices a_t_chooser a_t_owner a_t_held a_t_pick a_t_gain t_count t_chooser_r t_gain_r t_held_r t_owner_r t_pick_r t_values_r) H → va_D A (wd_X0_handOut cI cZ cR a_t a_t_values a_t_weight a_t_choices a_t_chooser a_t_owner a_t_held a_t_pick a_t_gain t_count t_chooser_r t_gain_r t_held_r t_owner_r t_pick_r t_values_r) → va_S A s.heap H locs → ∀ (ls : Array Slot), lv_has ls 8 [(0, .ref a_t), (2, .int x2), (3, .int x3)] → W p l e (headSpec wsX0_handOut ({ frames := 4, cells := 0, slots := 0, locals := 92 } : Room)).room s m args below meth c H locs 0 0 (MQ below (qv D cI cZ cR A (wd_X0_handOut cI cZ cR a_t a_t_values a_t_weight a_t_choices a_t_chooser a_t_owner a_t_held a_t_pick a_t_gain t_count t_chooser_r (out.1) (out.2.1) (out.2.2.1) (out.2.2.2) t_values_r)) args s 0 0 A) (F0 m 45 ls []) := by
  obtain ⟨hx, hb, hml, hr, hown, hts, hlocks, hN⟩ := id X
  intro t_gain_r t_held_r t_owner_r t_pick_r hf H locs hP hD hS ls hl
  unfold F_X0_handOut_45 at hf
  refine lv_iload_n hx hb dX0_handOut_45 rfl (lv_at hl 2 rfl) ?_
  refine lv_if_eq (tgt := 54) hx hb dX0_handOut_46 (by decide) (fun c9 => ?_) (fun c9 => ?_)
  · have hf := ipos c9 hf
    refine lv_iload_n hx hb dX0_handOut_54 rfl (lv_at hl 1 rfl) ?_
    refine lv_istore (lv' := [(4, .int x2), (0, .ref a_t), (2, .int x2), (3, .int x3)]) hx hb dX0_handOut_55 hl (by decide) rfl (fun ls hl => ?_)
    refine lv_iconst (v := (0 : Int32)) hx hb dX0_handOut_57 (by decide) ?_
    refine lv_istore (lv' := [(5, .int (0 : Int32)), (4, .int x2), (0, .ref a_t), (2, .int x2), (3, .int x3)]) hx hb dX0_handOut_58 hl (by decide) rfl (fun ls hl => ?_)
    exact w_X0_handOut_60 X hK hA _ x2 (0 : Int32) t_gain_r t_held_r t_owner_r t_pick_r hf _ _ hP hD hS _ (lv_sub hl [2, 4, 1, 0] rfl)
  · have hf := ineg c9 hf
    refine lv_aload_n hx hb dX0_handOut_49 rfl (lv_at hl 0 rfl) ?_
    refine lv_iload_n hx hb dX0_handOut_50 rfl (lv_at hl 1 rfl) ?_
    obtain ⟨r10, hr11, hf⟩ := bnd hf
    refine wcallv (D := D) (cI := cI) (cZ := cZ) (cR := cR) (wc := (wd_X0_foresee cI cZ cR a_t a_t_values a_t_weight a_t_choices a_t_chooser a_t_owner a_t_held a_t_pick a_t_gain t_count t_chooser_r t_gain_r t_pick_r t_values_r)) (w' := (wd_X0_foresee cI cZ cR a_t a_t_values a_t_weight a_t_choices a_t_chooser a_t_owner a_t_held a_t_pick a_t_gain t_count t_chooser_r (r10.1) (r10.2) t_values_r)) [0, 1, 2, 5, 6] hP hD hS hA rfl rfl rfl (rnV (As := [.int x2]) (ci := 0) (q0 := 0) X [0, 1, 2, 5, 6] hK hP hD rfl rfl rfl rfl (c_X0_foresee l D cI cZ cR hr11) (cwV 1 hts gX0_handOut_X0_foresee rfl rfl rfl (by decide +kernel) ⟨Nat.le_of_ble_eq_true rfl, Nat.le_of_ble_eq_true rfl⟩) rfl hl.1 rfl (Nat.le_of_ble_eq_true rfl) dX0_handOut_51) (fun H locs hP hD hS => ?_)
    have hP : va_P D vwCl (wd_X0_handOut cI cZ cR a_t a_t_values a_t_weight a_t_choices a_t_chooser a_t_owner a_t_held a_t_pick a_t_gain t_count t_chooser_r (r10.1) t_held_r t_owner_r (r10.2) t_values_r) H := hP
    have hD : va_D A (wd_X0_handOut cI cZ cR a_t a_t_values a_t_weight a_t_choices a_t_chooser a_t_owner a_t_held a_t_pick a_t_gain t_count t_chooser_r (r10.1) t_held_r t_owner_r (r10.2) t_values_r) := hD
    refine lv_iload_n hx hb dX0_handOut_54 rfl (lv_at hl 1 rfl) ?_
    refine lv_istore (lv' := [(4, .int x2), (0, .ref a_t), (2, .int x2), (3, .int x3)]) hx hb dX0_handOut_55 hl (by decide) rfl (fun ls hl => ?_)
    refine lv_iconst (v := (0 : Int32)) hx hb dX0_handOut_57 (by decide) ?_
    refine lv_istore (lv' := [(5, .int (0 : Int32)), (4, .int x2), (0, .ref a_t), (2, .int x2), (3, .int x3)]) hx hb dX0_handOut_58 hl (by decide) rfl (fun ls hl => ?_)
    exact w_X0_handOut_60 X hK hA _ x2 (0 : Int32) (r10.1) t_held_r t_owner_r (r10.2) hf _ _ hP hD hS _ (lv_sub hl [2, 4, 1, 0] rfl)
set_option maxHeartbeats 4000000 in
set_option maxRecDepth 100000 in
theorem w_X0_handOut_11 {p : Program} {l : Launch} {e : Env} {s : State} {m : MethodId} {args : Array Value} {below : List Frame} {meth : Method} {c : Code} {D : va_G} {cI cZ cR : ClassId} {A : Nat → Prop} {a_t a_t_values a_t_weight a_t_choices a_t_chooser a_t_owner a_t_held a_t_pick a_t_gain : Nat} {t_count : Int32} {t_chooser_r : Nat → Int32} {t_values_r : Nat → Int32} {x1 : Int32} {x2 : Int32} {x3 : Int32} {out : (Nat → Int32) × (Nat → Int32) × (Nat → Int32) × (Nat → Int32)} (X : cx p s m args meth c cX0_handOut 8 none RX0 wsX0_handOut) (hK : va_K D vwCl (ty3 cI cZ cR) s) (hA : ∀ q, s.heap.size ≤ q → A q) : ∀ (n : Nat) (x4 : Int32) (t_gain_r : Nat → Int32) (t_held_r : Nat → Int32) (t_owner_r : Nat → Int32) (t_pick_r : Nat → Int32), F_X0_handOut_11 x1 x2 x3 t_count t_chooser_r t_values_r n x4 t_gain_r t_held_r t_owner_r t_pick_r = some out → ∀ (H : Heap) (locs : List Loc), va_P D vwCl (wd_X0_handOut cI cZ cR a_t a_t_values a_t_weight a_t_choices a_t_chooser a_t_owner a_t_held a_t_pick a_t_gain t_count t_chooser_r t_gain_r t_held_r t_owner_r t_pick_r t_values_r) H → va_D A (wd_X0_handOut cI cZ cR a_t a_t_values a_t_weight a_t_choices a_t_chooser a_t_owner a_t_held a_t_pick a_t_gain t_count t_chooser_r t_gain_r t_held_r t_owner_r t_pick_r t_values_r) → va_S A s.heap H locs → ∀ (ls : Array Slot), lv_has ls 8 [(0, .ref a_t), (1, .int x1), (2, .int x2), (3, .int x3), (4, .int x4)] → W p l e (headSpec wsX0_handOut ({ frames := 4, cells := 0, slots := 0, locals := 92 } : Room)).room s m args below meth c H locs 0 0 (MQ below (qv D cI cZ cR A (wd_X0_handOut cI cZ cR a_t a_t_values a_t_weight a_t_choices a_t_chooser a_t_owner a_t_held a_t_pick a_t_gain t_count t_chooser_r (out.1) (out.2.1) (out.2.2.1) (out.2.2.2) t_values_r)) args s 0 0 A) (F0 m 11 ls []) := by
  obtain ⟨hx, hb, hml, hr, hown, hts, hlocks, hN⟩ := id X
  intro n
  induction n with
  | zero =>
    intro x4 t_gain_r t_held_r t_owner_r t_pick_r hf
    cases (show (none : Option ((Nat → Int32) × (Nat → Int32) × (Nat → Int32) × (Nat → Int32))) = some out from hf)
  | succ n ih =>
    intro x4 t_gain_r t_held_r t_owner_r t_pick_r hf H locs hP hD hS ls hl
    rw [F_X0_handOut_11] at hf
    refine lv_iload hx hb dX0_handOut_11 (lv_at hl 4 rfl) ?_
    refine lv_bipush (v := (6 : Int32)) hx hb dX0_handOut_13 (by decide) ?_
    refine lv_icmp_ge (tgt := 45) hx hb dX0_handOut_15 (by decide) (fun c3 => ?_) (fun c3 => ?_)
    · have hf := ipos c3 hf
      exact w_X0_handOut_45 X hK hA t_gain_r t_held_r t_owner_r t_pick_r hf _ _ hP hD hS _ (lv_sub hl [0, 2, 3] rfl)
    · have hf := ineg c3 hf
      refine lv_aload_n hx hb dX0_handOut_18 rfl (lv_at hl 0 rfl) ?_
      refine va_get (D := D) (ci := 0) (v := .ref a_t_held) (C := RX0) (T := TX0) (N := 9) hx hb hts in_X0_handOut_X0 hown hK hP 0 rfl rfl 5 (by decide) (hts (.fieldLink RX0 27 "DivisionHall$Dealer" "held" "[I") (by decide +kernel)) (fun _ h9 => h9) rfl dX0_handOut_19 ?_
      refine lv_iload hx hb dX0_handOut_22 (lv_at hl 4 rfl) ?_
      refine lv_iload_n hx hb dX0_handOut_24 rfl (lv_at hl 1 rfl) ?_
      refine lv_iload hx hb dX0_handOut_25 (lv_at hl 4 rfl) ?_
      obtain ⟨r4, hr5, hf⟩ := bnd hf
      refine wcalli (D := D) (cI := cI) (cZ := cZ) (cR := cR) (wc := (wd_X11_has cI cZ cR)) (w' := (wd_X11_has cI cZ cR)) [] hP hD hS hA rfl rfl rfl (rnSN (As := [.int x1, .int x4]) X [] hK hP hD rfl rfl (c_X11_has l D cI cZ cR hr5) ⟨va_cnB (host := "DivisionHall") 2 hts ggX0_handOut_X11_has rfl rfl rfl (hN.2.1 ("DivisionHall$Dealer", 40, yX11_has, "DivisionHall") (by decide +kernel)) (hts (.initialized RX11) (by decide +kernel)) (by decide +kernel) ⟨Nat.le_of_ble_eq_true rfl, Nat.le_of_ble_eq_true rfl⟩, hts (.static yX11_has) (by decide +kernel), trivial⟩ rfl hl.1 rfl (Nat.le_of_ble_eq_true rfl) dX0_handOut_27) (fun H locs hP hD hS => ?_)
      have hP : va_P D vwCl (wd_X0_handOut cI cZ cR a_t a_t_values a_t_weight a_t_choices a_t_chooser a_t_owner a_t_held a_t_pick a_t_gain t_count t_chooser_r t_gain_r t_held_r t_owner_r t_pick_r t_values_r) H := hP
      have hD : va_D A (wd_X0_handOut cI cZ cR a_t a_t_values a_t_weight a_t_choices a_t_chooser a_t_owner a_t_held a_t_pick a_t_gain t_count t_chooser_r t_gain_r t_held_r t_owner_r t_pick_r t_values_r) := hD
      refine lv_if_eq (tgt := 37) hx hb dX0_handOut_30 (by decide) (fun c6 => ?_) (fun c6 => ?_)
      · have hf := ipos c6 hf
        refine lv_iconst (v := (-1 : Int32)) hx hb dX0_handOut_37 (by decide) ?_
        obtain ⟨hi7, hf⟩ := gin_s hf
        refine va_iast hx hb hK hP hD hS 3 0 rfl rfl hi7 dX0_handOut_38 (fun H locs hP hD hS => ?_)
        have hP : va_P D vwCl (wd_X0_handOut cI cZ cR a_t a_t_values a_t_weight a_t_choices a_t_chooser a_t_owner a_t_held a_t_pick a_t_gain t_count t_chooser_r t_gain_r (upd t_held_r (x4).toNatClampNeg (-1 : Int32)) t_owner_r t_pick_r t_values_r) H := hP
        have hD : va_D A (wd_X0_handOut cI cZ cR a_t a_t_values a_t_weight a_t_choices a_t_chooser a_t_owner a_t_held a_t_pick a_t_gain t_count t_chooser_r t_gain_r (upd t_held_r (x4).toNatClampNeg (-1 : Int32)) t_owner_r t_pick_r t_values_r) := hD
        refine lv_iinc (v := (x4 + (1 : Int32))) (lv' := [(4, .int (x4 + (1 : Int32))), (0, .ref a_t), (1, .int x1), (2, .int x2), (3, .int x3)]) hx hb dX0_handOut_39 hl (k := 4) rfl rfl (by decide) rfl (fun ls hl => ?_)
        refine lv_goto (tgt := 11) hx hb dX0_handOut_42 (by decide) ?_
        exact ih (x4 + (1 : Int32)) t_gain_r (upd t_held_r (x4).toNatClampNeg (-1 : Int32)) t_owner_r t_pick_r hf _ _ hP hD hS _ (lv_sub hl [1, 2, 3, 4, 0] rfl)
      · have hf := ineg c6 hf
        refine lv_iconst (v := (0 : Int32)) hx hb dX0_handOut_33 (by decide) ?_
        refine lv_goto (tgt := 38) hx hb dX0_handOut_34 (by decide) ?_
        obtain ⟨hi8, hf⟩ := gin_s hf
        refine va_iast hx hb hK hP hD hS 3 0 rfl rfl hi8 dX0_handOut_38 (fun H locs hP hD hS => ?_)
        have hP : va_P D vwCl (wd_X0_handOut cI cZ cR a_t a_t_values a_t_weight a_t_choices a_t_chooser a_t_owner a_t_held a_t_pick a_t_gain t_count t_chooser_r t_gain_r (upd t_held_r (x4).toNatClampNeg (0 : Int32)) t_owner_r t_pick_r t_values_r) H := hP
        have hD : va_D A (wd_X0_handOut cI cZ cR a_t a_t_values a_t_weight a_t_choices a_t_chooser a_t_owner a_t_held a_t_pick a_t_gain t_count t_chooser_r t_gain_r (upd t_held_r (x4).toNatClampNeg (0 : Int32)) t_owner_r t_pick_r t_values_r) := hD
        refine lv_iinc (v := (x4 + (1 : Int32))) (lv' := [(4, .int (x4 + (1 : Int32))), (0, .ref a_t), (1, .int x1), (2, .int x2), (3, .int x3)]) hx hb dX0_handOut_39 hl (k := 4) rfl rfl (by decide) rfl (fun ls hl => ?_)
        refine lv_goto (tgt := 11) hx hb dX0_handOut_42 (by decide) ?_
        exact ih (x4 + (1 : Int32)) t_gain_r (upd t_held_r (x4).toNatClampNeg (0 : Int32)) t_owner_r t_pick_r hf _ _ hP hD hS _ (lv_sub hl [1, 2, 3, 4, 0] rfl)
set_option maxHeartbeats 4000000 in
set_option maxRecDepth 100000 in
theorem c_X0_handOut (l : Launch) (D : va_G) (cI cZ cR : ClassId) {a_t a_t_values a_t_weight a_t_choices a_t_chooser a_t_owner a_t_held a_t_pick a_t_gain : Nat} {t_count : Int32} {t_chooser_r : Nat → Int32} {t_gain_r : Nat → Int32} {t_held_r : Nat → Int32} {t_owner_r : Nat → Int32} {t_pick_r : Nat → Int32} {t_values_r : Nat → Int32} {x1 : Int32} {x2 : Int32} {x3 : Int32} {sz : Nat} {out : (Nat → Int32) × (Nat → Int32) × (Nat → Int32) × (Nat → Int32)} (hf : F_X0_handOut x1 x2 x3 t_count t_chooser_r t_gain_r t_held_r t_owner_r t_pick_r t_values_r = some out) : CV l yX0_handOut wsX0_handOut ({ frames := 4, cells := 0, slots := 0, locals := 92 } : Room) D cI cZ cR [.ref a_t, .int x1, .int x2, .int x3] (wd_X0_handOut cI cZ cR a_t a_t_values a_t_weight a_t_choices a_t_chooser a_t_owner a_t_held a_t_pick a_t_gain t_count t_chooser_r t_gain_r t_held_r t_owner_r t_pick_r t_values_r) sz (wd_X0_handOut cI cZ cR a_t a_t_values a_t_weight a_t_choices a_t_chooser a_t_owner a_t_held a_t_pick a_t_gain t_count t_chooser_r (out.1) (out.2.1) (out.2.2.1) (out.2.2.2) t_values_r) := by
  refine met_of (Qf := fun A => qv D cI cZ cR A (wd_X0_handOut cI cZ cR a_t a_t_values a_t_weight a_t_choices a_t_chooser a_t_owner a_t_held a_t_pick a_t_gain t_count t_chooser_r (out.1) (out.2.1) (out.2.2.1) (out.2.2.2) t_values_r)) RX0 (by decide +kernel) rfl rfl (Nat.le_of_ble_eq_true rfl) ?_
  intro p e s m below meth c A X hK hA hP hD hS ls hl
  have hl : lv_has ls 8 [(0, .ref a_t), (1, .int x1), (2, .int x2), (3, .int x3)] := hl
  obtain ⟨hx, hb, hml, hr, hown, hts, hlocks, hN⟩ := id X
  unfold F_X0_handOut at hf
  refine lv_aload_n hx hb dX0_handOut_0 rfl (lv_at hl 0 rfl) ?_
  refine va_get (D := D) (ci := 0) (v := .ref a_t_owner) (C := RX0) (T := TX0) (N := 9) hx hb hts in_X0_handOut_X0 hown hK hP 0 rfl rfl 4 (by decide) (hts (.fieldLink RX0 24 "DivisionHall$Dealer" "owner" "[I") (by decide +kernel)) (fun _ h9 => h9) rfl dX0_handOut_1 ?_
  refine lv_iconst (v := (-1 : Int32)) hx hb dX0_handOut_4 (by decide) ?_
  obtain ⟨r1, hr2, hf⟩ := bnd hf
  refine wcallv (D := D) (cI := cI) (cZ := cZ) (cR := cR) (wc := (wd_J7_fill_53178 cI cZ cR a_t_owner 8 t_owner_r)) (w' := (wd_J7_fill_53178 cI cZ cR a_t_owner 8 r1)) [4] hP hD hS hA rfl rfl rfl (rnS (As := [.ref a_t_owner, .int (-1 : Int32)]) X [4] hK hP hD rfl rfl (c_J7_fill_53178 l D cI cZ cR hr2) ⟨callB_of 2 hts ggX0_handOut_J7_fill_53178 rfl rfl rfl (hts (.initialized RJ7) (by decide +kernel)) (hts (.methodLink RX0 52 yJ7_fill_53178) (by decide +kernel)) (by decide +kernel) ⟨Nat.le_of_ble_eq_true rfl, Nat.le_of_ble_eq_true rfl⟩, hts (.static yJ7_fill_53178) (by decide +kernel)⟩ rfl hl.1 rfl (Nat.le_of_ble_eq_true rfl) dX0_handOut_5) (fun H locs hP hD hS => ?_)
  have hP : va_P D vwCl (wd_X0_handOut cI cZ cR a_t a_t_values a_t_weight a_t_choices a_t_chooser a_t_owner a_t_held a_t_pick a_t_gain t_count t_chooser_r t_gain_r t_held_r r1 t_pick_r t_values_r) H := hP
  have hD : va_D A (wd_X0_handOut cI cZ cR a_t a_t_values a_t_weight a_t_choices a_t_chooser a_t_owner a_t_held a_t_pick a_t_gain t_count t_chooser_r t_gain_r t_held_r r1 t_pick_r t_values_r) := hD
  refine lv_iconst (v := (0 : Int32)) hx hb dX0_handOut_8 (by decide) ?_
  refine lv_istore (lv' := [(4, .int (0 : Int32)), (0, .ref a_t), (1, .int x1), (2, .int x2), (3, .int x3)]) hx hb dX0_handOut_9 hl (by decide) rfl (fun ls hl => ?_)
  exact w_X0_handOut_11 X hK hA _ (0 : Int32) t_gain_r t_held_r r1 t_pick_r hf _ _ hP hD hS _ (lv_sub hl [1, 2, 3, 4, 0] rfl)

abbrev wd_X0_ownerOf (cI cZ cR : ClassId) (a_t a_t_values a_t_weight a_t_choices a_t_chooser a_t_owner a_t_held a_t_pick a_t_gain : Nat) (t_count : Int32) (t_owner_r : Nat → Int32) : va_W := [(a_t, oB 0 [.ref a_t_values, .ref a_t_weight, .ref a_t_choices, .ref a_t_chooser, .ref a_t_owner, .ref a_t_held, .ref a_t_pick, .ref a_t_gain, .int t_count]), (a_t_owner, aI cI 8 t_owner_r)]
set_option maxRecDepth 100000 in
theorem in_X0_ownerOf_X0 : ∀ w ∈ wsX00, w ∈ wsX0_ownerOf := by decide +kernel
set_option maxHeartbeats 4000000 in
set_option maxRecDepth 100000 in
theorem c_X0_ownerOf (l : Launch) (D : va_G) (cI cZ cR : ClassId) {a_t a_t_values a_t_weight a_t_choices a_t_chooser a_t_owner a_t_held a_t_pick a_t_gain : Nat} {t_count : Int32} {t_owner_r : Nat → Int32} {x1 : Int32} {sz : Nat} {out : Int32} (hf : F_X0_ownerOf x1 t_owner_r = some out) : CI l yX0_ownerOf wsX0_ownerOf ({ frames := 1, cells := 0, slots := 0, locals := 21 } : Room) D cI cZ cR [.ref a_t, .int x1] (wd_X0_ownerOf cI cZ cR a_t a_t_values a_t_weight a_t_choices a_t_chooser a_t_owner a_t_held a_t_pick a_t_gain t_count t_owner_r) sz (out) (wd_X0_ownerOf cI cZ cR a_t a_t_values a_t_weight a_t_choices a_t_chooser a_t_owner a_t_held a_t_pick a_t_gain t_count t_owner_r) := by
  refine met_of (Qf := fun A => qi D cI cZ cR A (out) (wd_X0_ownerOf cI cZ cR a_t a_t_values a_t_weight a_t_choices a_t_chooser a_t_owner a_t_held a_t_pick a_t_gain t_count t_owner_r)) RX0 (by decide +kernel) rfl rfl (Nat.le_of_ble_eq_true rfl) ?_
  intro p e s m below meth c A X hK hA hP hD hS ls hl
  have hl : lv_has ls 2 [(0, .ref a_t), (1, .int x1)] := hl
  obtain ⟨hx, hb, hml, hr, hown, hts, hlocks, hN⟩ := id X
  unfold F_X0_ownerOf at hf
  refine lv_iload_n hx hb dX0_ownerOf_0 rfl (lv_at hl 1 rfl) ?_
  refine lv_bipush (v := (8 : Int32)) hx hb dX0_ownerOf_1 (by decide) ?_
  obtain ⟨r1, hr2, hf⟩ := bnd hf
  refine wcalli (D := D) (cI := cI) (cZ := cZ) (cR := cR) (wc := (wd_X11_inside cI cZ cR)) (w' := (wd_X11_inside cI cZ cR)) [] hP hD hS hA rfl rfl rfl (rnSN (As := [.int x1, .int (8 : Int32)]) X [] hK hP hD rfl rfl (c_X11_inside l D cI cZ cR hr2) ⟨va_cnB (host := "DivisionHall") 2 hts ggX0_ownerOf_X11_inside rfl rfl rfl (hN.2.1 ("DivisionHall$Dealer", 36, yX11_inside, "DivisionHall") (by decide +kernel)) (hts (.initialized RX11) (by decide +kernel)) (by decide +kernel) ⟨Nat.le_of_ble_eq_true rfl, Nat.le_of_ble_eq_true rfl⟩, hts (.static yX11_inside) (by decide +kernel), trivial⟩ rfl hl.1 rfl (Nat.le_of_ble_eq_true rfl) dX0_ownerOf_3) (fun H locs hP hD hS => ?_)
  have hP : va_P D vwCl (wd_X0_ownerOf cI cZ cR a_t a_t_values a_t_weight a_t_choices a_t_chooser a_t_owner a_t_held a_t_pick a_t_gain t_count t_owner_r) H := hP
  have hD : va_D A (wd_X0_ownerOf cI cZ cR a_t a_t_values a_t_weight a_t_choices a_t_chooser a_t_owner a_t_held a_t_pick a_t_gain t_count t_owner_r) := hD
  refine lv_if_eq (tgt := 18) hx hb dX0_ownerOf_6 (by decide) (fun c3 => ?_) (fun c3 => ?_)
  · have hf := ipos c3 hf
    refine lv_iconst (v := (-1 : Int32)) hx hb dX0_ownerOf_18 (by decide) ?_
    cases hf
    exact reti X hK hP hD hS dX0_ownerOf_19
  · have hf := ineg c3 hf
    refine lv_aload_n hx hb dX0_ownerOf_9 rfl (lv_at hl 0 rfl) ?_
    refine va_get (D := D) (ci := 0) (v := .ref a_t_owner) (C := RX0) (T := TX0) (N := 9) hx hb hts in_X0_ownerOf_X0 hown hK hP 0 rfl rfl 4 (by decide) (hts (.fieldLink RX0 24 "DivisionHall$Dealer" "owner" "[I") (by decide +kernel)) (fun _ h9 => h9) rfl dX0_ownerOf_10 ?_
    refine lv_iload_n hx hb dX0_ownerOf_13 rfl (lv_at hl 1 rfl) ?_
    obtain ⟨hi4, hf⟩ := gin_s hf
    refine va_iald hx hb hK hP 1 0 rfl rfl hi4 dX0_ownerOf_14 ?_
    refine lv_goto (tgt := 19) hx hb dX0_ownerOf_15 (by decide) ?_
    cases hf
    exact reti X hK hP hD hS dX0_ownerOf_19

abbrev wd_X0_heldBy (cI cZ cR : ClassId) (a_t a_t_values a_t_weight a_t_choices a_t_chooser a_t_owner a_t_held a_t_pick a_t_gain : Nat) (t_count : Int32) (t_held_r : Nat → Int32) : va_W := [(a_t, oB 0 [.ref a_t_values, .ref a_t_weight, .ref a_t_choices, .ref a_t_chooser, .ref a_t_owner, .ref a_t_held, .ref a_t_pick, .ref a_t_gain, .int t_count]), (a_t_held, aI cI 6 t_held_r)]
set_option maxRecDepth 100000 in
theorem in_X0_heldBy_X0 : ∀ w ∈ wsX00, w ∈ wsX0_heldBy := by decide +kernel
set_option maxHeartbeats 4000000 in
set_option maxRecDepth 100000 in
theorem c_X0_heldBy (l : Launch) (D : va_G) (cI cZ cR : ClassId) {a_t a_t_values a_t_weight a_t_choices a_t_chooser a_t_owner a_t_held a_t_pick a_t_gain : Nat} {t_count : Int32} {t_held_r : Nat → Int32} {x1 : Int32} {sz : Nat} {out : Int32} (hf : F_X0_heldBy x1 t_held_r = some out) : CI l yX0_heldBy wsX0_heldBy ({ frames := 1, cells := 0, slots := 0, locals := 21 } : Room) D cI cZ cR [.ref a_t, .int x1] (wd_X0_heldBy cI cZ cR a_t a_t_values a_t_weight a_t_choices a_t_chooser a_t_owner a_t_held a_t_pick a_t_gain t_count t_held_r) sz (out) (wd_X0_heldBy cI cZ cR a_t a_t_values a_t_weight a_t_choices a_t_chooser a_t_owner a_t_held a_t_pick a_t_gain t_count t_held_r) := by
  refine met_of (Qf := fun A => qi D cI cZ cR A (out) (wd_X0_heldBy cI cZ cR a_t a_t_values a_t_weight a_t_choices a_t_chooser a_t_owner a_t_held a_t_pick a_t_gain t_count t_held_r)) RX0 (by decide +kernel) rfl rfl (Nat.le_of_ble_eq_true rfl) ?_
  intro p e s m below meth c A X hK hA hP hD hS ls hl
  have hl : lv_has ls 2 [(0, .ref a_t), (1, .int x1)] := hl
  obtain ⟨hx, hb, hml, hr, hown, hts, hlocks, hN⟩ := id X
  unfold F_X0_heldBy at hf
  refine lv_iload_n hx hb dX0_heldBy_0 rfl (lv_at hl 1 rfl) ?_
  refine lv_bipush (v := (6 : Int32)) hx hb dX0_heldBy_1 (by decide) ?_
  obtain ⟨r1, hr2, hf⟩ := bnd hf
  refine wcalli (D := D) (cI := cI) (cZ := cZ) (cR := cR) (wc := (wd_X11_inside cI cZ cR)) (w' := (wd_X11_inside cI cZ cR)) [] hP hD hS hA rfl rfl rfl (rnSN (As := [.int x1, .int (6 : Int32)]) X [] hK hP hD rfl rfl (c_X11_inside l D cI cZ cR hr2) ⟨va_cnB (host := "DivisionHall") 2 hts ggX0_heldBy_X11_inside rfl rfl rfl (hN.2.1 ("DivisionHall$Dealer", 36, yX11_inside, "DivisionHall") (by decide +kernel)) (hts (.initialized RX11) (by decide +kernel)) (by decide +kernel) ⟨Nat.le_of_ble_eq_true rfl, Nat.le_of_ble_eq_true rfl⟩, hts (.static yX11_inside) (by decide +kernel), trivial⟩ rfl hl.1 rfl (Nat.le_of_ble_eq_true rfl) dX0_heldBy_3) (fun H locs hP hD hS => ?_)
  have hP : va_P D vwCl (wd_X0_heldBy cI cZ cR a_t a_t_values a_t_weight a_t_choices a_t_chooser a_t_owner a_t_held a_t_pick a_t_gain t_count t_held_r) H := hP
  have hD : va_D A (wd_X0_heldBy cI cZ cR a_t a_t_values a_t_weight a_t_choices a_t_chooser a_t_owner a_t_held a_t_pick a_t_gain t_count t_held_r) := hD
  refine lv_if_eq (tgt := 18) hx hb dX0_heldBy_6 (by decide) (fun c3 => ?_) (fun c3 => ?_)
  · have hf := ipos c3 hf
    refine lv_iconst (v := (-1 : Int32)) hx hb dX0_heldBy_18 (by decide) ?_
    cases hf
    exact reti X hK hP hD hS dX0_heldBy_19
  · have hf := ineg c3 hf
    refine lv_aload_n hx hb dX0_heldBy_9 rfl (lv_at hl 0 rfl) ?_
    refine va_get (D := D) (ci := 0) (v := .ref a_t_held) (C := RX0) (T := TX0) (N := 9) hx hb hts in_X0_heldBy_X0 hown hK hP 0 rfl rfl 5 (by decide) (hts (.fieldLink RX0 27 "DivisionHall$Dealer" "held" "[I") (by decide +kernel)) (fun _ h9 => h9) rfl dX0_heldBy_10 ?_
    refine lv_iload_n hx hb dX0_heldBy_13 rfl (lv_at hl 1 rfl) ?_
    obtain ⟨hi4, hf⟩ := gin_s hf
    refine va_iald hx hb hK hP 1 0 rfl rfl hi4 dX0_heldBy_14 ?_
    refine lv_goto (tgt := 19) hx hb dX0_heldBy_15 (by decide) ?_
    cases hf
    exact reti X hK hP hD hS dX0_heldBy_19

abbrev wd_X0_chooserAt (cI cZ cR : ClassId) (a_t a_t_values a_t_weight a_t_choices a_t_chooser a_t_owner a_t_held a_t_pick a_t_gain : Nat) (t_count : Int32) (t_chooser_r : Nat → Int32) : va_W := [(a_t, oB 0 [.ref a_t_values, .ref a_t_weight, .ref a_t_choices, .ref a_t_chooser, .ref a_t_owner, .ref a_t_held, .ref a_t_pick, .ref a_t_gain, .int t_count]), (a_t_chooser, aI cI 8 t_chooser_r)]
set_option maxRecDepth 100000 in
theorem in_X0_chooserAt_X0 : ∀ w ∈ wsX00, w ∈ wsX0_chooserAt := by decide +kernel
set_option maxHeartbeats 4000000 in
set_option maxRecDepth 100000 in
theorem c_X0_chooserAt (l : Launch) (D : va_G) (cI cZ cR : ClassId) {a_t a_t_values a_t_weight a_t_choices a_t_chooser a_t_owner a_t_held a_t_pick a_t_gain : Nat} {t_count : Int32} {t_chooser_r : Nat → Int32} {x1 : Int32} {sz : Nat} {out : Int32} (hf : F_X0_chooserAt x1 t_count t_chooser_r = some out) : CI l yX0_chooserAt wsX0_chooserAt ({ frames := 1, cells := 0, slots := 0, locals := 21 } : Room) D cI cZ cR [.ref a_t, .int x1] (wd_X0_chooserAt cI cZ cR a_t a_t_values a_t_weight a_t_choices a_t_chooser a_t_owner a_t_held a_t_pick a_t_gain t_count t_chooser_r) sz (out) (wd_X0_chooserAt cI cZ cR a_t a_t_values a_t_weight a_t_choices a_t_chooser a_t_owner a_t_held a_t_pick a_t_gain t_count t_chooser_r) := by
  refine met_of (Qf := fun A => qi D cI cZ cR A (out) (wd_X0_chooserAt cI cZ cR a_t a_t_values a_t_weight a_t_choices a_t_chooser a_t_owner a_t_held a_t_pick a_t_gain t_count t_chooser_r)) RX0 (by decide +kernel) rfl rfl (Nat.le_of_ble_eq_true rfl) ?_
  intro p e s m below meth c A X hK hA hP hD hS ls hl
  have hl : lv_has ls 2 [(0, .ref a_t), (1, .int x1)] := hl
  obtain ⟨hx, hb, hml, hr, hown, hts, hlocks, hN⟩ := id X
  unfold F_X0_chooserAt at hf
  refine lv_iload_n hx hb dX0_chooserAt_0 rfl (lv_at hl 1 rfl) ?_
  refine lv_aload_n hx hb dX0_chooserAt_1 rfl (lv_at hl 0 rfl) ?_
  refine va_get (D := D) (ci := 0) (v := .int t_count) (C := RX0) (T := TX0) (N := 9) hx hb hts in_X0_chooserAt_X0 hown hK hP 0 rfl rfl 8 (by decide) (hts (.fieldLink RX0 64 "DivisionHall$Dealer" "count" "I") (by decide +kernel)) (fun _ h9 => h9) rfl dX0_chooserAt_2 ?_
  obtain ⟨r1, hr2, hf⟩ := bnd hf
  refine wcalli (D := D) (cI := cI) (cZ := cZ) (cR := cR) (wc := (wd_X11_inside cI cZ cR)) (w' := (wd_X11_inside cI cZ cR)) [] hP hD hS hA rfl rfl rfl (rnSN (As := [.int x1, .int t_count]) X [] hK hP hD rfl rfl (c_X11_inside l D cI cZ cR hr2) ⟨va_cnB (host := "DivisionHall") 2 hts ggX0_chooserAt_X11_inside rfl rfl rfl (hN.2.1 ("DivisionHall$Dealer", 36, yX11_inside, "DivisionHall") (by decide +kernel)) (hts (.initialized RX11) (by decide +kernel)) (by decide +kernel) ⟨Nat.le_of_ble_eq_true rfl, Nat.le_of_ble_eq_true rfl⟩, hts (.static yX11_inside) (by decide +kernel), trivial⟩ rfl hl.1 rfl (Nat.le_of_ble_eq_true rfl) dX0_chooserAt_5) (fun H locs hP hD hS => ?_)
  have hP : va_P D vwCl (wd_X0_chooserAt cI cZ cR a_t a_t_values a_t_weight a_t_choices a_t_chooser a_t_owner a_t_held a_t_pick a_t_gain t_count t_chooser_r) H := hP
  have hD : va_D A (wd_X0_chooserAt cI cZ cR a_t a_t_values a_t_weight a_t_choices a_t_chooser a_t_owner a_t_held a_t_pick a_t_gain t_count t_chooser_r) := hD
  refine lv_if_eq (tgt := 26) hx hb dX0_chooserAt_8 (by decide) (fun c3 => ?_) (fun c3 => ?_)
  · have hf := ipos c3 hf
    refine lv_iconst (v := (-1 : Int32)) hx hb dX0_chooserAt_26 (by decide) ?_
    cases hf
    exact reti X hK hP hD hS dX0_chooserAt_27
  · have hf := ineg c3 hf
    refine lv_iload_n hx hb dX0_chooserAt_11 rfl (lv_at hl 1 rfl) ?_
    refine lv_bipush (v := (8 : Int32)) hx hb dX0_chooserAt_12 (by decide) ?_
    refine lv_icmp_ge (tgt := 26) hx hb dX0_chooserAt_14 (by decide) (fun c4 => ?_) (fun c4 => ?_)
    · have hf := ipos c4 hf
      refine lv_iconst (v := (-1 : Int32)) hx hb dX0_chooserAt_26 (by decide) ?_
      cases hf
      exact reti X hK hP hD hS dX0_chooserAt_27
    · have hf := ineg c4 hf
      refine lv_aload_n hx hb dX0_chooserAt_17 rfl (lv_at hl 0 rfl) ?_
      refine va_get (D := D) (ci := 0) (v := .ref a_t_chooser) (C := RX0) (T := TX0) (N := 9) hx hb hts in_X0_chooserAt_X0 hown hK hP 0 rfl rfl 3 (by decide) (hts (.fieldLink RX0 21 "DivisionHall$Dealer" "chooser" "[I") (by decide +kernel)) (fun _ h9 => h9) rfl dX0_chooserAt_18 ?_
      refine lv_iload_n hx hb dX0_chooserAt_21 rfl (lv_at hl 1 rfl) ?_
      obtain ⟨hi5, hf⟩ := gin_s hf
      refine va_iald hx hb hK hP 1 0 rfl rfl hi5 dX0_chooserAt_22 ?_
      refine lv_goto (tgt := 27) hx hb dX0_chooserAt_23 (by decide) ?_
      cases hf
      exact reti X hK hP hD hS dX0_chooserAt_27
