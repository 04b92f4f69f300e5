abbrev wd_X4_firstOf (cI cZ cR : ClassId) (a_t a_t_first a_t_rank a_t_told a_t_beaten a_t_leads a_t_order : Nat) (t_count : Int32) (t_first_r : Nat → Int32) : va_W := [(a_t, oB 4 [.ref a_t_first, .ref a_t_rank, .ref a_t_told, .ref a_t_beaten, .ref a_t_leads, .ref a_t_order, .int t_count]), (a_t_first, aI cI 10 t_first_r)]
set_option maxRecDepth 100000 in
theorem in_X4_firstOf_X4 : ∀ w ∈ wsX40, w ∈ wsX4_firstOf := by decide +kernel
set_option maxHeartbeats 4000000 in
set_option maxRecDepth 100000 in
theorem c_X4_firstOf (l : Launch) (D : va_G) (cI cZ cR : ClassId) {a_t a_t_first a_t_rank a_t_told a_t_beaten a_t_leads a_t_order : Nat} {t_count : Int32} {t_first_r : Nat → Int32} {x1 : Int32} {sz : Nat} {out : Int32} (hf : F_X4_firstOf x1 t_first_r = some out) : CI l yX4_firstOf wsX4_firstOf ({ frames := 1, cells := 0, slots := 0, locals := 21 } : Room) D cI cZ cR [.ref a_t, .int x1] (wd_X4_firstOf cI cZ cR a_t a_t_first a_t_rank a_t_told a_t_beaten a_t_leads a_t_order t_count t_first_r) sz (out) (wd_X4_firstOf cI cZ cR a_t a_t_first a_t_rank a_t_told a_t_beaten a_t_leads a_t_order t_count t_first_r) := by
  refine met_of (Qf := fun A => qi D cI cZ cR A (out) (wd_X4_firstOf cI cZ cR a_t a_t_first a_t_rank a_t_told a_t_beaten a_t_leads a_t_order t_count t_first_r)) RX4 (by decide +kernel) rfl rfl (Nat.le_of_ble_eq_true rfl) ?_
  intro p e s m below meth c A X hK hA hP hD hS ls hl
  have hl : lv_has ls 2 [(0, .ref a_t), (1, .int x1)] := hl
  obtain ⟨hx, hb, hml, hr, hown, hts, hlocks, hN⟩ := id X
  unfold F_X4_firstOf at hf
  refine lv_iload_n hx hb dX4_firstOf_0 rfl (lv_at hl 1 rfl) ?_
  refine lv_bipush (v := (10 : Int32)) hx hb dX4_firstOf_1 (by decide) ?_
  obtain ⟨r1, hr2, hf⟩ := bnd hf
  refine wcalli (D := D) (cI := cI) (cZ := cZ) (cR := cR) (wc := (wd_X11_inside cI cZ cR)) (w' := (wd_X11_inside cI cZ cR)) [] hP hD hS hA rfl rfl rfl (rnSN (As := [.int x1, .int (10 : Int32)]) X [] hK hP hD rfl rfl (c_X11_inside l D cI cZ cR hr2) ⟨va_cnB (host := "DivisionHall") 2 hts ggX4_firstOf_X11_inside rfl rfl rfl (hN.2.1 ("DivisionHall$Motions", 36, yX11_inside, "DivisionHall") (by decide +kernel)) (hts (.initialized RX11) (by decide +kernel)) (by decide +kernel) ⟨Nat.le_of_ble_eq_true rfl, Nat.le_of_ble_eq_true rfl⟩, hts (.static yX11_inside) (by decide +kernel), trivial⟩ rfl hl.1 rfl (Nat.le_of_ble_eq_true rfl) dX4_firstOf_3) (fun H locs hP hD hS => ?_)
  have hP : va_P D vwCl (wd_X4_firstOf cI cZ cR a_t a_t_first a_t_rank a_t_told a_t_beaten a_t_leads a_t_order t_count t_first_r) H := hP
  have hD : va_D A (wd_X4_firstOf cI cZ cR a_t a_t_first a_t_rank a_t_told a_t_beaten a_t_leads a_t_order t_count t_first_r) := hD
  refine lv_if_eq (tgt := 18) hx hb dX4_firstOf_6 (by decide) (fun c3 => ?_) (fun c3 => ?_)
  · have hf := ipos c3 hf
    refine lv_iconst (v := (-1 : Int32)) hx hb dX4_firstOf_18 (by decide) ?_
    cases hf
    exact reti X hK hP hD hS dX4_firstOf_19
  · have hf := ineg c3 hf
    refine lv_aload_n hx hb dX4_firstOf_9 rfl (lv_at hl 0 rfl) ?_
    refine va_get (D := D) (ci := 4) (v := .ref a_t_first) (C := RX4) (T := TX4) (N := 7) hx hb hts in_X4_firstOf_X4 hown hK hP 0 rfl rfl 0 (by decide) (hts (.fieldLink RX4 9 "DivisionHall$Motions" "first" "[I") (by decide +kernel)) (fun _ h9 => h9) rfl dX4_firstOf_10 ?_
    refine lv_iload_n hx hb dX4_firstOf_13 rfl (lv_at hl 1 rfl) ?_
    obtain ⟨hi4, hf⟩ := gin_s hf
    refine va_iald hx hb hK hP 1 0 rfl rfl hi4 dX4_firstOf_14 ?_
    refine lv_goto (tgt := 19) hx hb dX4_firstOf_15 (by decide) ?_
    cases hf
    exact reti X hK hP hD hS dX4_firstOf_19

abbrev wd_X4_drop (cI cZ cR : ClassId) (a_t a_t_first a_t_rank a_t_told a_t_beaten a_t_leads a_t_order : Nat) (t_count : Int32) (t_first_r : Nat → Int32) : va_W := [(a_t, oB 4 [.ref a_t_first, .ref a_t_rank, .ref a_t_told, .ref a_t_beaten, .ref a_t_leads, .ref a_t_order, .int t_count]), (a_t_first, aI cI 10 t_first_r)]
set_option maxRecDepth 100000 in
theorem in_X4_drop_X4 : ∀ w ∈ wsX40, w ∈ wsX4_drop := by decide +kernel
set_option maxHeartbeats 4000000 in
set_option maxRecDepth 100000 in
theorem c_X4_drop (l : Launch) (D : va_G) (cI cZ cR : ClassId) {a_t a_t_first a_t_rank a_t_told a_t_beaten a_t_leads a_t_order : Nat} {t_count : Int32} {t_first_r : Nat → Int32} {x1 : Int32} {sz : Nat} {out : (Nat → Int32)} (hf : F_X4_drop x1 t_first_r = some out) : CV l yX4_drop wsX4_drop ({ frames := 1, cells := 0, slots := 0, locals := 21 } : Room) D cI cZ cR [.ref a_t, .int x1] (wd_X4_drop cI cZ cR a_t a_t_first a_t_rank a_t_told a_t_beaten a_t_leads a_t_order t_count t_first_r) sz (wd_X4_drop cI cZ cR a_t a_t_first a_t_rank a_t_told a_t_beaten a_t_leads a_t_order t_count out) := by
  refine met_of (Qf := fun A => qv D cI cZ cR A (wd_X4_drop cI cZ cR a_t a_t_first a_t_rank a_t_told a_t_beaten a_t_leads a_t_order t_count out)) RX4 (by decide +kernel) rfl rfl (Nat.le_of_ble_eq_true rfl) ?_
  intro p e s m below meth c A X hK hA hP hD hS ls hl
  have hl : lv_has ls 2 [(0, .ref a_t), (1, .int x1)] := hl
  obtain ⟨hx, hb, hml, hr, hown, hts, hlocks, hN⟩ := id X
  unfold F_X4_drop at hf
  refine lv_iload_n hx hb dX4_drop_0 rfl (lv_at hl 1 rfl) ?_
  refine lv_bipush (v := (10 : Int32)) hx hb dX4_drop_1 (by decide) ?_
  obtain ⟨r1, hr2, hf⟩ := bnd hf
  refine wcalli (D := D) (cI := cI) (cZ := cZ) (cR := cR) (wc := (wd_X11_inside cI cZ cR)) (w' := (wd_X11_inside cI cZ cR)) [] hP hD hS hA rfl rfl rfl (rnSN (As := [.int x1, .int (10 : Int32)]) X [] hK hP hD rfl rfl (c_X11_inside l D cI cZ cR hr2) ⟨va_cnB (host := "DivisionHall") 2 hts ggX4_drop_X11_inside rfl rfl rfl (hN.2.1 ("DivisionHall$Motions", 36, yX11_inside, "DivisionHall") (by decide +kernel)) (hts (.initialized RX11) (by decide +kernel)) (by decide +kernel) ⟨Nat.le_of_ble_eq_true rfl, Nat.le_of_ble_eq_true rfl⟩, hts (.static yX11_inside) (by decide +kernel), trivial⟩ rfl hl.1 rfl (Nat.le_of_ble_eq_true rfl) dX4_drop_3) (fun H locs hP hD hS => ?_)
  have hP : va_P D vwCl (wd_X4_drop cI cZ cR a_t a_t_first a_t_rank a_t_told a_t_beaten a_t_leads a_t_order t_count t_first_r) H := hP
  have hD : va_D A (wd_X4_drop cI cZ cR a_t a_t_first a_t_rank a_t_told a_t_beaten a_t_leads a_t_order t_count t_first_r) := hD
  refine lv_if_eq (tgt := 16) hx hb dX4_drop_6 (by decide) (fun c3 => ?_) (fun c3 => ?_)
  · have hf := ipos c3 hf
    cases hf
    exact retv X hK hP hD hS dX4_drop_16
  · have hf := ineg c3 hf
    refine lv_aload_n hx hb dX4_drop_9 rfl (lv_at hl 0 rfl) ?_
    refine va_get (D := D) (ci := 4) (v := .ref a_t_first) (C := RX4) (T := TX4) (N := 7) hx hb hts in_X4_drop_X4 hown hK hP 0 rfl rfl 0 (by decide) (hts (.fieldLink RX4 9 "DivisionHall$Motions" "first" "[I") (by decide +kernel)) (fun _ h9 => h9) rfl dX4_drop_10 ?_
    refine lv_iload_n hx hb dX4_drop_13 rfl (lv_at hl 1 rfl) ?_
    refine lv_iconst (v := (-1 : Int32)) hx hb dX4_drop_14 (by decide) ?_
    obtain ⟨hi4, hf⟩ := gin_s hf
    refine va_iast hx hb hK hP hD hS 1 0 rfl rfl hi4 dX4_drop_15 (fun H locs hP hD hS => ?_)
    have hP : va_P D vwCl (wd_X4_drop cI cZ cR a_t a_t_first a_t_rank a_t_told a_t_beaten a_t_leads a_t_order t_count (upd t_first_r (x1).toNatClampNeg (-1 : Int32))) H := hP
    have hD : va_D A (wd_X4_drop cI cZ cR a_t a_t_first a_t_rank a_t_told a_t_beaten a_t_leads a_t_order t_count (upd t_first_r (x1).toNatClampNeg (-1 : Int32))) := hD
    cases hf
    exact retv X hK hP hD hS dX4_drop_16

abbrev wd_X4_take (cI cZ cR : ClassId) (a_t a_t_first a_t_rank a_t_told a_t_beaten a_t_leads a_t_order : Nat) (t_count : Int32) (t_first_r : Nat → Int32) (t_rank_r : Nat → Int32) (t_told_r : Nat → Int32) : va_W := [(a_t, oB 4 [.ref a_t_first, .ref a_t_rank, .ref a_t_told, .ref a_t_beaten, .ref a_t_leads, .ref a_t_order, .int t_count]), (a_t_first, aI cI 10 t_first_r), (a_t_rank, aI cI 60 t_rank_r), (a_t_told, aI cI 6 t_told_r)]
set_option maxRecDepth 100000 in
theorem in_X4_take_X4 : ∀ w ∈ wsX40, w ∈ wsX4_take := by decide +kernel
set_option maxHeartbeats 4000000 in
set_option maxRecDepth 100000 in
theorem w_X4_take_88 {p : Program} {l : Launch} {e : Env} {s : State} {m : MethodId} {args : Array Value} {below : List Frame} {meth : Method} {c : Code} {D : va_G} {cI cZ cR : ClassId} {A : Nat → Prop} {a_t a_t_first a_t_rank a_t_told a_t_beaten a_t_leads a_t_order : Nat} {t_count : Int32} {x1 : Int32} {out : Int32 × (Nat → Int32) × (Nat → Int32) × (Nat → Int32)} (X : cx p s m args meth c cX4_take 7 (some .boolean) RX4 wsX4_take) (hK : va_K D vwCl (ty3 cI cZ cR) s) (hA : ∀ q, s.heap.size ≤ q → A q) : ∀ (x4 : Int32) (x5 : Int32) (t_first_r : Nat → Int32) (t_rank_r : Nat → Int32) (t_told_r : Nat → Int32), F_X4_take_88 x1 x4 x5 t_first_r t_rank_r t_told_r = some out → ∀ (H : Heap) (locs : List Loc), va_P D vwCl (wd_X4_take cI cZ cR a_t a_t_first a_t_rank a_t_told a_t_beaten a_t_leads a_t_order t_count t_first_r t_rank_r t_told_r) H → va_D A (wd_X4_take cI cZ cR a_t a_t_first a_t_rank a_t_told a_t_beaten a_t_leads a_t_order t_count t_first_r t_rank_r t_told_r) → va_S A s.heap H locs → ∀ (ls : Array Slot), lv_has ls 7 [(0, .ref a_t), (1, .int x1), (4, .int x4), (5, .int x5)] → W p l e (headSpec wsX4_take ({ frames := 1, cells := 0, slots := 0, locals := 38 } : Room)).room s m args below meth c H locs 0 0 (MQ below (qi D cI cZ cR A (out.1) (wd_X4_take cI cZ cR a_t a_t_first a_t_rank a_t_told a_t_beaten a_t_leads a_t_order t_count (out.2.1) (out.2.2.1) (out.2.2.2))) args s 0 0 A) (F0 m 88 ls []) := by
  obtain ⟨hx, hb, hml, hr, hown, hts, hlocks, hN⟩ := id X
  intro x4 x5 t_first_r t_rank_r t_told_r hf H locs hP hD hS ls hl
  unfold F_X4_take_88 at hf
  refine lv_iload hx hb dX4_take_88 (lv_at hl 2 rfl) ?_
  refine lv_if_eq (tgt := 95) hx hb dX4_take_90 (by decide) (fun c15 => ?_) (fun c15 => ?_)
  · have hf := ipos c15 hf
    refine lv_aload_n hx hb dX4_take_95 rfl (lv_at hl 0 rfl) ?_
    refine va_get (D := D) (ci := 4) (v := .ref a_t_first) (C := RX4) (T := TX4) (N := 7) hx hb hts in_X4_take_X4 hown hK hP 0 rfl rfl 0 (by decide) (hts (.fieldLink RX4 9 "DivisionHall$Motions" "first" "[I") (by decide +kernel)) (fun _ h9 => h9) rfl dX4_take_96 ?_
    refine lv_iload_n hx hb dX4_take_99 rfl (lv_at hl 1 rfl) ?_
    refine lv_iload hx hb dX4_take_100 (lv_at hl 3 rfl) ?_
    obtain ⟨hi16, hf⟩ := gin_s hf
    refine va_iast hx hb hK hP hD hS 1 0 rfl rfl hi16 dX4_take_102 (fun H locs hP hD hS => ?_)
    have hP : va_P D vwCl (wd_X4_take cI cZ cR a_t a_t_first a_t_rank a_t_told a_t_beaten a_t_leads a_t_order t_count (upd t_first_r (x1).toNatClampNeg x5) t_rank_r t_told_r) H := hP
    have hD : va_D A (wd_X4_take cI cZ cR a_t a_t_first a_t_rank a_t_told a_t_beaten a_t_leads a_t_order t_count (upd t_first_r (x1).toNatClampNeg x5) t_rank_r t_told_r) := hD
    refine lv_aload_n hx hb dX4_take_103 rfl (lv_at hl 0 rfl) ?_
    refine va_get (D := D) (ci := 4) (v := .ref a_t_told) (C := RX4) (T := TX4) (N := 7) hx hb hts in_X4_take_X4 hown hK hP 0 rfl rfl 2 (by decide) (hts (.fieldLink RX4 18 "DivisionHall$Motions" "told" "[I") (by decide +kernel)) (fun _ h9 => h9) rfl dX4_take_104 ?_
    refine lv_iconst (v := (0 : Int32)) hx hb dX4_take_107 (by decide) ?_
    refine lv_aload_n hx hb dX4_take_108 rfl (lv_at hl 0 rfl) ?_
    refine va_get (D := D) (ci := 4) (v := .ref a_t_rank) (C := RX4) (T := TX4) (N := 7) hx hb hts in_X4_take_X4 hown hK hP 0 rfl rfl 1 (by decide) (hts (.fieldLink RX4 15 "DivisionHall$Motions" "rank" "[I") (by decide +kernel)) (fun _ h9 => h9) rfl dX4_take_109 ?_
    refine lv_iload_n hx hb dX4_take_112 rfl (lv_at hl 1 rfl) ?_
    refine lv_bipush (v := (6 : Int32)) hx hb dX4_take_113 (by decide) ?_
    refine lv_imul hx hb dX4_take_115 ?_
    refine lv_bipush (v := (6 : Int32)) hx hb dX4_take_116 (by decide) ?_
    obtain ⟨⟨hk17, hk18, hk19, hk20, hk21⟩, hf⟩ := gcp_s hf
    refine va_copyi (ty := .int) hx hb (hml.trans hl.1.symm) hown (hts (.methodLink RX4 43 arraycopyName) (by decide +kernel)) (hts (.native arraycopyName) (by decide +kernel)) (hts (.static arraycopyName) (by decide +kernel)) (hts (.initialized "java/lang/System") (by decide +kernel)) hK hP hD hS 3 2 0 0 rfl rfl rfl rfl rfl hk17 hk18 hk19 hk20 hk21 (fun _ _ => rfl) (Nat.le_of_ble_eq_true rfl) (Nat.le_of_ble_eq_true rfl) dX4_take_118 (fun H locs hP hD hS => ?_)
    have hP : va_P D vwCl (wd_X4_take cI cZ cR a_t a_t_first a_t_rank a_t_told a_t_beaten a_t_leads a_t_order t_count (upd t_first_r (x1).toNatClampNeg x5) (va_cpy t_told_r t_rank_r ((0 : Int32)).toNatClampNeg ((x1 * (6 : Int32))).toNatClampNeg ((6 : Int32)).toNatClampNeg) t_told_r) H := hP
    have hD : va_D A (wd_X4_take cI cZ cR a_t a_t_first a_t_rank a_t_told a_t_beaten a_t_leads a_t_order t_count (upd t_first_r (x1).toNatClampNeg x5) (va_cpy t_told_r t_rank_r ((0 : Int32)).toNatClampNeg ((x1 * (6 : Int32))).toNatClampNeg ((6 : Int32)).toNatClampNeg) t_told_r) := hD
    refine lv_iconst (v := (1 : Int32)) hx hb dX4_take_121 (by decide) ?_
    cases hf
    exact retz (Or.inr rfl) X hK hP hD hS dX4_take_122
  · have hf := ineg c15 hf
    refine lv_iconst (v := (0 : Int32)) hx hb dX4_take_93 (by decide) ?_
    cases hf
    exact retz (Or.inl rfl) X hK hP hD hS dX4_take_94
set_option maxHeartbeats 4000000 in
set_option maxRecDepth 100000 in
theorem w_X4_take_26 {p : Program} {l : Launch} {e : Env} {s : State} {m : MethodId} {args : Array Value} {below : List Frame} {meth : Method} {c : Code} {D : va_G} {cI cZ cR : ClassId} {A : Nat → Prop} {a_t a_t_first a_t_rank a_t_told a_t_beaten a_t_leads a_t_order : Nat} {t_count : Int32} {x1 : Int32} {out : Int32 × (Nat → Int32) × (Nat → Int32) × (Nat → Int32)} (X : cx p s m args meth c cX4_take 7 (some .boolean) RX4 wsX4_take) (hK : va_K D vwCl (ty3 cI cZ cR) s) (hA : ∀ q, s.heap.size ≤ q → A q) : ∀ (n : Nat) (x3 : Int32) (x4 : Int32) (x5 : Int32) (x6 : Int32) (t_first_r : Nat → Int32) (t_rank_r : Nat → Int32) (t_told_r : Nat → Int32), F_X4_take_26 x1 n x3 x4 x5 x6 t_first_r t_rank_r t_told_r = some out → ∀ (H : Heap) (locs : List Loc), va_P D vwCl (wd_X4_take cI cZ cR a_t a_t_first a_t_rank a_t_told a_t_beaten a_t_leads a_t_order t_count t_first_r t_rank_r t_told_r) H → va_D A (wd_X4_take cI cZ cR a_t a_t_first a_t_rank a_t_told a_t_beaten a_t_leads a_t_order t_count t_first_r t_rank_r t_told_r) → va_S A s.heap H locs → ∀ (ls : Array Slot), lv_has ls 7 [(0, .ref a_t), (1, .int x1), (3, .int x3), (4, .int x4), (5, .int x5), (6, .int x6)] → W p l e (headSpec wsX4_take ({ frames := 1, cells := 0, slots := 0, locals := 38 } : Room)).room s m args below meth c H locs 0 0 (MQ below (qi D cI cZ cR A (out.1) (wd_X4_take cI cZ cR a_t a_t_first a_t_rank a_t_told a_t_beaten a_t_leads a_t_order t_count (out.2.1) (out.2.2.1) (out.2.2.2))) args s 0 0 A) (F0 m 26 ls []) := by
  obtain ⟨hx, hb, hml, hr, hown, hts, hlocks, hN⟩ := id X
  intro n
  induction n with
  | zero =>
    intro x3 x4 x5 x6 t_first_r t_rank_r t_told_r hf
    cases (show (none : Option (Int32 × (Nat → Int32) × (Nat → Int32) × (Nat → Int32))) = some out from hf)
  | succ n ih =>
    intro x3 x4 x5 x6 t_first_r t_rank_r t_told_r hf H locs hP hD hS ls hl
    rw [F_X4_take_26] at hf
    refine lv_iload hx hb dX4_take_26 (lv_at hl 5 rfl) ?_
    refine lv_if_lt (tgt := 88) hx hb dX4_take_28 (by decide) (fun c5 => ?_) (fun c5 => ?_)
    · have hf := ipos c5 hf
      exact w_X4_take_88 X hK hA x4 x5 t_first_r t_rank_r t_told_r hf _ _ hP hD hS _ (lv_sub hl [0, 1, 3, 4] rfl)
    · have hf := ineg c5 hf
      refine lv_iload hx hb dX4_take_31 (lv_at hl 3 rfl) ?_
      refine lv_bipush (v := (10 : Int32)) hx hb dX4_take_33 (by decide) ?_
      refine lv_irem hx hb dX4_take_35 (by decide) ?_
      refine lv_istore (lv' := [(5, .int (x4 - x4 / (10 : Int32) * (10 : Int32))), (0, .ref a_t), (1, .int x1), (3, .int x3), (4, .int x4), (6, .int x6)]) hx hb dX4_take_36 hl (by decide) rfl (fun ls hl => ?_)
      refine lv_iload hx hb dX4_take_38 (lv_at hl 4 rfl) ?_
      refine lv_bipush (v := (10 : Int32)) hx hb dX4_take_40 (by decide) ?_
      refine lv_idiv hx hb dX4_take_42 (by decide) ?_
      refine lv_istore (lv' := [(4, .int (x4 / (10 : Int32))), (5, .int (x4 - x4 / (10 : Int32) * (10 : Int32))), (0, .ref a_t), (1, .int x1), (3, .int x3), (6, .int x6)]) hx hb dX4_take_43 hl (by decide) rfl (fun ls hl => ?_)
      refine lv_iload hx hb dX4_take_45 (lv_at hl 1 rfl) ?_
      refine lv_bipush (v := (6 : Int32)) hx hb dX4_take_47 (by decide) ?_
      obtain ⟨r8, hr9, hf⟩ := bnd hf
      refine wcalli (D := D) (cI := cI) (cZ := cZ) (cR := cR) (wc := (wd_X11_inside cI cZ cR)) (w' := (wd_X11_inside cI cZ cR)) [] hP hD hS hA rfl rfl rfl (rnSN (As := [.int (x4 - x4 / (10 : Int32) * (10 : Int32)), .int (6 : Int32)]) X [] hK hP hD rfl rfl (c_X11_inside l D cI cZ cR hr9) ⟨va_cnB (host := "DivisionHall") 2 hts ggX4_take_X11_inside rfl rfl rfl (hN.2.1 ("DivisionHall$Motions", 36, yX11_inside, "DivisionHall") (by decide +kernel)) (hts (.initialized RX11) (by decide +kernel)) (by decide +kernel) ⟨Nat.le_of_ble_eq_true rfl, Nat.le_of_ble_eq_true rfl⟩, hts (.static yX11_inside) (by decide +kernel), trivial⟩ rfl hl.1 rfl (Nat.le_of_ble_eq_true rfl) dX4_take_49) (fun H locs hP hD hS => ?_)
      have hP : va_P D vwCl (wd_X4_take cI cZ cR a_t a_t_first a_t_rank a_t_told a_t_beaten a_t_leads a_t_order t_count t_first_r t_rank_r t_told_r) H := hP
      have hD : va_D A (wd_X4_take cI cZ cR a_t a_t_first a_t_rank a_t_told a_t_beaten a_t_leads a_t_order t_count t_first_r t_rank_r t_told_r) := hD
      refine lv_if_eq (tgt := 64) hx hb dX4_take_52 (by decide) (fun c10 => ?_) (fun c10 => ?_)
      · have hf := ipos c10 hf
        refine lv_iconst (v := (0 : Int32)) hx hb dX4_take_64 (by decide) ?_
        cases hf
        exact retz (Or.inl rfl) X hK hP hD hS dX4_take_65
      · have hf := ineg c10 hf
        refine lv_iload_n hx hb dX4_take_55 rfl (lv_at hl 4 rfl) ?_
        refine lv_iload hx hb dX4_take_56 (lv_at hl 1 rfl) ?_
        obtain ⟨r11, hr12, hf⟩ := bnd hf
        refine wcalli (D := D) (cI := cI) (cZ := cZ) (cR := cR) (wc := (wd_X11_has cI cZ cR)) (w' := (wd_X11_has cI cZ cR)) [] hP hD hS hA rfl rfl rfl (rnSN (As := [.int x3, .int (x4 - x4 / (10 : Int32) * (10 : Int32))]) X [] hK hP hD rfl rfl (c_X11_has l D cI cZ cR hr12) ⟨va_cnB (host := "DivisionHall") 2 hts ggX4_take_X11_has rfl rfl rfl (hN.2.1 ("DivisionHall$Motions", 40, yX11_has, "DivisionHall") (by decide +kernel)) (hts (.initialized RX11) (by decide +kernel)) (by decide +kernel) ⟨Nat.le_of_ble_eq_true rfl, Nat.le_of_ble_eq_true rfl⟩, hts (.static yX11_has) (by decide +kernel), trivial⟩ rfl hl.1 rfl (Nat.le_of_ble_eq_true rfl) dX4_take_58) (fun H locs hP hD hS => ?_)
        have hP : va_P D vwCl (wd_X4_take cI cZ cR a_t a_t_first a_t_rank a_t_told a_t_beaten a_t_leads a_t_order t_count t_first_r t_rank_r t_told_r) H := hP
        have hD : va_D A (wd_X4_take cI cZ cR a_t a_t_first a_t_rank a_t_told a_t_beaten a_t_leads a_t_order t_count t_first_r t_rank_r t_told_r) := hD
        refine lv_if_eq (tgt := 66) hx hb dX4_take_61 (by decide) (fun c13 => ?_) (fun c13 => ?_)
        · have hf := ipos c13 hf
          refine lv_iload_n hx hb dX4_take_66 rfl (lv_at hl 4 rfl) ?_
          refine lv_iconst (v := (1 : Int32)) hx hb dX4_take_67 (by decide) ?_
          refine lv_iload hx hb dX4_take_68 (lv_at hl 1 rfl) ?_
          refine lv_ishl hx hb dX4_take_70 ?_
          refine lv_ior hx hb dX4_take_71 ?_
          refine lv_istore_n (lv' := [(3, .int (x3 ||| ((1 : Int32) <<< ((x4 - x4 / (10 : Int32) * (10 : Int32)) &&& 31)))), (4, .int (x4 / (10 : Int32))), (5, .int (x4 - x4 / (10 : Int32) * (10 : Int32))), (0, .ref a_t), (1, .int x1), (6, .int x6)]) hx hb dX4_take_72 rfl hl (by decide) rfl (fun ls hl => ?_)
          refine lv_aload_n hx hb dX4_take_73 rfl (lv_at hl 3 rfl) ?_
          refine va_get (D := D) (ci := 4) (v := .ref a_t_told) (C := RX4) (T := TX4) (N := 7) hx hb hts in_X4_take_X4 hown hK hP 0 rfl rfl 2 (by decide) (hts (.fieldLink RX4 18 "DivisionHall$Motions" "told" "[I") (by decide +kernel)) (fun _ h9 => h9) rfl dX4_take_74 ?_
          refine lv_iload hx hb dX4_take_77 (lv_at hl 2 rfl) ?_
          refine lv_iload hx hb dX4_take_79 (lv_at hl 5 rfl) ?_
          obtain ⟨hi14, hf⟩ := gin_s hf
          refine va_iast hx hb hK hP hD hS 3 0 rfl rfl hi14 dX4_take_81 (fun H locs hP hD hS => ?_)
          have hP : va_P D vwCl (wd_X4_take cI cZ cR a_t a_t_first a_t_rank a_t_told a_t_beaten a_t_leads a_t_order t_count t_first_r t_rank_r (upd t_told_r ((x4 - x4 / (10 : Int32) * (10 : Int32))).toNatClampNeg x6)) H := hP
          have hD : va_D A (wd_X4_take cI cZ cR a_t a_t_first a_t_rank a_t_told a_t_beaten a_t_leads a_t_order t_count t_first_r t_rank_r (upd t_told_r ((x4 - x4 / (10 : Int32) * (10 : Int32))).toNatClampNeg x6)) := hD
          refine lv_iinc (v := (x6 + (-1 : Int32))) (lv' := [(6, .int (x6 + (-1 : Int32))), (3, .int (x3 ||| ((1 : Int32) <<< ((x4 - x4 / (10 : Int32) * (10 : Int32)) &&& 31)))), (4, .int (x4 / (10 : Int32))), (5, .int (x4 - x4 / (10 : Int32) * (10 : Int32))), (0, .ref a_t), (1, .int x1)]) hx hb dX4_take_82 hl (k := 5) rfl rfl (by decide) rfl (fun ls hl => ?_)
          refine lv_goto (tgt := 26) hx hb dX4_take_85 (by decide) ?_
          exact ih (x3 ||| ((1 : Int32) <<< ((x4 - x4 / (10 : Int32) * (10 : Int32)) &&& 31))) (x4 / (10 : Int32)) (x4 - x4 / (10 : Int32) * (10 : Int32)) (x6 + (-1 : Int32)) t_first_r t_rank_r (upd t_told_r ((x4 - x4 / (10 : Int32) * (10 : Int32))).toNatClampNeg x6) hf _ _ hP hD hS _ (lv_sub hl [4, 5, 1, 2, 3, 0] rfl)
        · have hf := ineg c13 hf
          refine lv_iconst (v := (0 : Int32)) hx hb dX4_take_64 (by decide) ?_
          cases hf
          exact retz (Or.inl rfl) X hK hP hD hS dX4_take_65
set_option maxHeartbeats 4000000 in
set_option maxRecDepth 100000 in
theorem c_X4_take (l : Launch) (D : va_G) (cI cZ cR : ClassId) {a_t a_t_first a_t_rank a_t_told a_t_beaten a_t_leads a_t_order : Nat} {t_count : Int32} {t_first_r : Nat → Int32} {t_rank_r : Nat → Int32} {t_told_r : Nat → Int32} {x1 : Int32} {x2 : Int32} {sz : Nat} {out : Int32 × (Nat → Int32) × (Nat → Int32) × (Nat → Int32)} (hf : F_X4_take x1 x2 t_first_r t_rank_r t_told_r = some out) : CI l yX4_take wsX4_take ({ frames := 1, cells := 0, slots := 0, locals := 38 } : Room) D cI cZ cR [.ref a_t, .int x1, .int x2] (wd_X4_take cI cZ cR a_t a_t_first a_t_rank a_t_told a_t_beaten a_t_leads a_t_order t_count t_first_r t_rank_r t_told_r) sz (out.1) (wd_X4_take cI cZ cR a_t a_t_first a_t_rank a_t_told a_t_beaten a_t_leads a_t_order t_count (out.2.1) (out.2.2.1) (out.2.2.2)) := by
  refine met_of (Qf := fun A => qi D cI cZ cR A (out.1) (wd_X4_take cI cZ cR a_t a_t_first a_t_rank a_t_told a_t_beaten a_t_leads a_t_order t_count (out.2.1) (out.2.2.1) (out.2.2.2))) RX4 (by decide +kernel) rfl rfl (Nat.le_of_ble_eq_true rfl) ?_
  intro p e s m below meth c A X hK hA hP hD hS ls hl
  have hl : lv_has ls 7 [(0, .ref a_t), (1, .int x1), (2, .int x2)] := hl
  obtain ⟨hx, hb, hml, hr, hown, hts, hlocks, hN⟩ := id X
  unfold F_X4_take at hf
  refine lv_iload_n hx hb dX4_take_0 rfl (lv_at hl 1 rfl) ?_
  refine lv_bipush (v := (10 : Int32)) hx hb dX4_take_1 (by decide) ?_
  obtain ⟨r1, hr2, hf⟩ := bnd hf
  refine wcalli (D := D) (cI := cI) (cZ := cZ) (cR := cR) (wc := (wd_X11_inside cI cZ cR)) (w' := (wd_X11_inside cI cZ cR)) [] hP hD hS hA rfl rfl rfl (rnSN (As := [.int x1, .int (10 : Int32)]) X [] hK hP hD rfl rfl (c_X11_inside l D cI cZ cR hr2) ⟨va_cnB (host := "DivisionHall") 2 hts ggX4_take_X11_inside rfl rfl rfl (hN.2.1 ("DivisionHall$Motions", 36, yX11_inside, "DivisionHall") (by decide +kernel)) (hts (.initialized RX11) (by decide +kernel)) (by decide +kernel) ⟨Nat.le_of_ble_eq_true rfl, Nat.le_of_ble_eq_true rfl⟩, hts (.static yX11_inside) (by decide +kernel), trivial⟩ rfl hl.1 rfl (Nat.le_of_ble_eq_true rfl) dX4_take_3) (fun H locs hP hD hS => ?_)
  have hP : va_P D vwCl (wd_X4_take cI cZ cR a_t a_t_first a_t_rank a_t_told a_t_beaten a_t_leads a_t_order t_count t_first_r t_rank_r t_told_r) H := hP
  have hD : va_D A (wd_X4_take cI cZ cR a_t a_t_first a_t_rank a_t_told a_t_beaten a_t_leads a_t_order t_count t_first_r t_rank_r t_told_r) := hD
  refine lv_if_eq (tgt := 13) hx hb dX4_take_6 (by decide) (fun c3 => ?_) (fun c3 => ?_)
  · have hf := ipos c3 hf
    refine lv_iconst (v := (0 : Int32)) hx hb dX4_take_13 (by decide) ?_
    cases hf
    exact retz (Or.inl rfl) X hK hP hD hS dX4_take_14
  · have hf := ineg c3 hf
    refine lv_iload_n hx hb dX4_take_9 rfl (lv_at hl 2 rfl) ?_
    refine lv_if_ge (tgt := 15) hx hb dX4_take_10 (by decide) (fun c4 => ?_) (fun c4 => ?_)
    · have hf := ipos c4 hf
      refine lv_iconst (v := (0 : Int32)) hx hb dX4_take_15 (by decide) ?_
      refine lv_istore_n (lv' := [(3, .int (0 : Int32)), (0, .ref a_t), (1, .int x1), (2, .int x2)]) hx hb dX4_take_16 rfl hl (by decide) rfl (fun ls hl => ?_)
      refine lv_iload_n hx hb dX4_take_17 rfl (lv_at hl 3 rfl) ?_
      refine lv_istore (lv' := [(4, .int x2), (3, .int (0 : Int32)), (0, .ref a_t), (1, .int x1), (2, .int x2)]) hx hb dX4_take_18 hl (by decide) rfl (fun ls hl => ?_)
      refine lv_iconst (v := (-1 : Int32)) hx hb dX4_take_20 (by decide) ?_
      refine lv_istore (lv' := [(5, .int (-1 : Int32)), (4, .int x2), (3, .int (0 : Int32)), (0, .ref a_t), (1, .int x1), (2, .int x2)]) hx hb dX4_take_21 hl (by decide) rfl (fun ls hl => ?_)
      refine lv_iconst (v := (5 : Int32)) hx hb dX4_take_23 (by decide) ?_
      refine lv_istore (lv' := [(6, .int (5 : Int32)), (5, .int (-1 : Int32)), (4, .int x2), (3, .int (0 : Int32)), (0, .ref a_t), (1, .int x1), (2, .int x2)]) hx hb dX4_take_24 hl (by decide) rfl (fun ls hl => ?_)
      exact w_X4_take_26 X hK hA _ (0 : Int32) x2 (-1 : Int32) (5 : Int32) t_first_r t_rank_r t_told_r hf _ _ hP hD hS _ (lv_sub hl [4, 5, 3, 2, 1, 0] rfl)
    · have hf := ineg c4 hf
      refine lv_iconst (v := (0 : Int32)) hx hb dX4_take_13 (by decide) ?_
      cases hf
      exact retz (Or.inl rfl) X hK hP hD hS dX4_take_14

abbrev wd_X4_ahead (cI cZ cR : ClassId) (a_t a_t_first a_t_rank a_t_told a_t_beaten a_t_leads a_t_order : Nat) (t_count : Int32) (t_first_r : Nat → Int32) (t_rank_r : Nat → Int32) : va_W := [(a_t, oB 4 [.ref a_t_first, .ref a_t_rank, .ref a_t_told, .ref a_t_beaten, .ref a_t_leads, .ref a_t_order, .int t_count]), (a_t_first, aI cI 10 t_first_r), (a_t_rank, aI cI 60 t_rank_r)]
set_option maxRecDepth 100000 in
theorem in_X4_ahead_X4 : ∀ w ∈ wsX40, w ∈ wsX4_ahead := by decide +kernel
set_option maxHeartbeats 4000000 in
set_option maxRecDepth 100000 in
theorem w_X4_ahead_23 {p : Program} {l : Launch} {e : Env} {s : State} {m : MethodId} {args : Array Value} {below : List Frame} {meth : Method} {c : Code} {D : va_G} {cI cZ cR : ClassId} {A : Nat → Prop} {a_t a_t_first a_t_rank a_t_told a_t_beaten a_t_leads a_t_order : Nat} {t_count : Int32} {t_first_r : Nat → Int32} {t_rank_r : Nat → Int32} {x1 : Int32} {x2 : Int32} {out : Int32} (X : cx p s m args meth c cX4_ahead 5 (some .int) RX4 wsX4_ahead) (hK : va_K D vwCl (ty3 cI cZ cR) s) (hA : ∀ q, s.heap.size ≤ q → A q) : ∀ (n : Nat) (x3 : Int32) (x4 : Int32), F_X4_ahead_23 x1 x2 t_first_r t_rank_r n x3 x4 = some out → ∀ (H : Heap) (locs : List Loc), va_P D vwCl (wd_X4_ahead cI cZ cR a_t a_t_first a_t_rank a_t_told a_t_beaten a_t_leads a_t_order t_count t_first_r t_rank_r) H → va_D A (wd_X4_ahead cI cZ cR a_t a_t_first a_t_rank a_t_told a_t_beaten a_t_leads a_t_order t_count t_first_r t_rank_r) → va_S A s.heap H locs → ∀ (ls : Array Slot), lv_has ls 5 [(0, .ref a_t), (1, .int x1), (2, .int x2), (3, .int x3), (4, .int x4)] → W p l e (headSpec wsX4_ahead ({ frames := 1, cells := 0, slots := 0, locals := 21 } : Room)).room s m args below meth c H locs 0 0 (MQ below (qi D cI cZ cR A (out) (wd_X4_ahead cI cZ cR a_t a_t_first a_t_rank a_t_told a_t_beaten a_t_leads a_t_order t_count t_first_r t_rank_r)) args s 0 0 A) (F0 m 23 ls []) := by
  obtain ⟨hx, hb, hml, hr, hown, hts, hlocks, hN⟩ := id X
  intro n
  induction n with
  | zero =>
    intro x3 x4 hf
    cases (show (none : Option (Int32)) = some out from hf)
  | succ n ih =>
    intro x3 x4 hf H locs hP hD hS ls hl
    rw [F_X4_ahead_23] at hf
    refine lv_iload hx hb dX4_ahead_23 (lv_at hl 4 rfl) ?_
    refine lv_bipush (v := (10 : Int32)) hx hb dX4_ahead_25 (by decide) ?_
    refine lv_icmp_ge (tgt := 81) hx hb dX4_ahead_27 (by decide) (fun c7 => ?_) (fun c7 => ?_)
    · have hf := ipos c7 hf
      refine lv_iload_n hx hb dX4_ahead_81 rfl (lv_at hl 3 rfl) ?_
      cases hf
      exact reti X hK hP hD hS dX4_ahead_82
    · have hf := ineg c7 hf
      refine lv_aload_n hx hb dX4_ahead_30 rfl (lv_at hl 0 rfl) ?_
      refine va_get (D := D) (ci := 4) (v := .ref a_t_first) (C := RX4) (T := TX4) (N := 7) hx hb hts in_X4_ahead_X4 hown hK hP 0 rfl rfl 0 (by decide) (hts (.fieldLink RX4 9 "DivisionHall$Motions" "first" "[I") (by decide +kernel)) (fun _ h9 => h9) rfl dX4_ahead_31 ?_
      refine lv_iload hx hb dX4_ahead_34 (lv_at hl 4 rfl) ?_
      obtain ⟨hi8, hf⟩ := gin_s hf
      refine va_iald hx hb hK hP 1 0 rfl rfl hi8 dX4_ahead_36 ?_
      refine lv_iconst (v := (-1 : Int32)) hx hb dX4_ahead_37 (by decide) ?_
      refine lv_icmp_eq (tgt := 75) hx hb dX4_ahead_38 (by decide) (fun c9 => ?_) (fun c9 => ?_)
      · have hf := ipos c9 hf
        refine lv_iinc (v := (x4 + (1 : Int32))) (lv' := [(4, .int (x4 + (1 : Int32))), (0, .ref a_t), (1, .int x1), (2, .int x2), (3, .int x3)]) hx hb dX4_ahead_75 hl (k := 4) rfl rfl (by decide) rfl (fun ls hl => ?_)
        refine lv_goto (tgt := 23) hx hb dX4_ahead_78 (by decide) ?_
        exact ih x3 (x4 + (1 : Int32)) hf _ _ hP hD hS _ (lv_sub hl [1, 2, 3, 4, 0] rfl)
      · have hf := ineg c9 hf
        refine lv_aload_n hx hb dX4_ahead_41 rfl (lv_at hl 0 rfl) ?_
        refine va_get (D := D) (ci := 4) (v := .ref a_t_rank) (C := RX4) (T := TX4) (N := 7) hx hb hts in_X4_ahead_X4 hown hK hP 0 rfl rfl 1 (by decide) (hts (.fieldLink RX4 15 "DivisionHall$Motions" "rank" "[I") (by decide +kernel)) (fun _ h9 => h9) rfl dX4_ahead_42 ?_
        refine lv_iload hx hb dX4_ahead_45 (lv_at hl 4 rfl) ?_
        refine lv_bipush (v := (6 : Int32)) hx hb dX4_ahead_47 (by decide) ?_
        refine lv_imul hx hb dX4_ahead_49 ?_
        refine lv_iload_n hx hb dX4_ahead_50 rfl (lv_at hl 1 rfl) ?_
        refine lv_iadd hx hb dX4_ahead_51 ?_
        obtain ⟨hi10, hf⟩ := gin_s hf
        refine va_iald hx hb hK hP 2 0 rfl rfl hi10 dX4_ahead_52 ?_
        refine lv_aload_n hx hb dX4_ahead_53 rfl (lv_at hl 0 rfl) ?_
        refine va_get (D := D) (ci := 4) (v := .ref a_t_rank) (C := RX4) (T := TX4) (N := 7) hx hb hts in_X4_ahead_X4 hown hK hP 0 rfl rfl 1 (by decide) (hts (.fieldLink RX4 15 "DivisionHall$Motions" "rank" "[I") (by decide +kernel)) (fun _ h9 => h9) rfl dX4_ahead_54 ?_
        refine lv_iload hx hb dX4_ahead_57 (lv_at hl 4 rfl) ?_
        refine lv_bipush (v := (6 : Int32)) hx hb dX4_ahead_59 (by decide) ?_
        refine lv_imul hx hb dX4_ahead_61 ?_
        refine lv_iload_n hx hb dX4_ahead_62 rfl (lv_at hl 2 rfl) ?_
        refine lv_iadd hx hb dX4_ahead_63 ?_
        obtain ⟨hi11, hf⟩ := gin_s hf
        refine va_iald hx hb hK hP 2 0 rfl rfl hi11 dX4_ahead_64 ?_
        refine lv_icmp_ge (tgt := 75) hx hb dX4_ahead_65 (by decide) (fun c12 => ?_) (fun c12 => ?_)
        · have hf := ipos c12 hf
          refine lv_iinc (v := (x4 + (1 : Int32))) (lv' := [(4, .int (x4 + (1 : Int32))), (0, .ref a_t), (1, .int x1), (2, .int x2), (3, .int x3)]) hx hb dX4_ahead_75 hl (k := 4) rfl rfl (by decide) rfl (fun ls hl => ?_)
          refine lv_goto (tgt := 23) hx hb dX4_ahead_78 (by decide) ?_
          exact ih x3 (x4 + (1 : Int32)) hf _ _ hP hD hS _ (lv_sub hl [1, 2, 3, 4, 0] rfl)
        · have hf := ineg c12 hf
          refine lv_iload_n hx hb dX4_ahead_68 rfl (lv_at hl 3 rfl) ?_
          refine lv_iconst (v := (1 : Int32)) hx hb dX4_ahead_69 (by decide) ?_
          refine lv_iload hx hb dX4_ahead_70 (lv_at hl 4 rfl) ?_
          refine lv_ishl hx hb dX4_ahead_72 ?_
          refine lv_ior hx hb dX4_ahead_73 ?_
          refine lv_istore_n (lv' := [(3, .int (x3 ||| ((1 : Int32) <<< (x4 &&& 31)))), (0, .ref a_t), (1, .int x1), (2, .int x2), (4, .int x4)]) hx hb dX4_ahead_74 rfl hl (by decide) rfl (fun ls hl => ?_)
          refine lv_iinc (v := (x4 + (1 : Int32))) (lv' := [(4, .int (x4 + (1 : Int32))), (3, .int (x3 ||| ((1 : Int32) <<< (x4 &&& 31)))), (0, .ref a_t), (1, .int x1), (2, .int x2)]) hx hb dX4_ahead_75 hl (k := 4) rfl rfl (by decide) rfl (fun ls hl => ?_)
          refine lv_goto (tgt := 23) hx hb dX4_ahead_78 (by decide) ?_
          exact ih (x3 ||| ((1 : Int32) <<< (x4 &&& 31))) (x4 + (1 : Int32)) hf _ _ hP hD hS _ (lv_sub hl [2, 3, 4, 1, 0] rfl)
set_option maxHeartbeats 4000000 in
set_option maxRecDepth 100000 in
theorem c_X4_ahead (l : Launch) (D : va_G) (cI cZ cR : ClassId) {a_t a_t_first a_t_rank a_t_told a_t_beaten a_t_leads a_t_order : Nat} {t_count : Int32} {t_first_r : Nat → Int32} {t_rank_r : Nat → Int32} {x1 : Int32} {x2 : Int32} {sz : Nat} {out : Int32} (hf : F_X4_ahead x1 x2 t_first_r t_rank_r = some out) : CI l yX4_ahead wsX4_ahead ({ frames := 1, cells := 0, slots := 0, locals := 21 } : Room) D cI cZ cR [.ref a_t, .int x1, .int x2] (wd_X4_ahead cI cZ cR a_t a_t_first a_t_rank a_t_told a_t_beaten a_t_leads a_t_order t_count t_first_r t_rank_r) sz (out) (wd_X4_ahead cI cZ cR a_t a_t_first a_t_rank a_t_told a_t_beaten a_t_leads a_t_order t_count t_first_r t_rank_r) := by
  refine met_of (Qf := fun A => qi D cI cZ cR A (out) (wd_X4_ahead cI cZ cR a_t a_t_first a_t_rank a_t_told a_t_beaten a_t_leads a_t_order t_count t_first_r t_rank_r)) RX4 (by decide +kernel) rfl rfl (Nat.le_of_ble_eq_true rfl) ?_
  intro p e s m below meth c A X hK hA hP hD hS ls hl
  have hl : lv_has ls 5 [(0, .ref a_t), (1, .int x1), (2, .int x2)] := hl
  obtain ⟨hx, hb, hml, hr, hown, hts, hlocks, hN⟩ := id X
  unfold F_X4_ahead at hf
  refine lv_iconst (v := (0 : Int32)) hx hb dX4_ahead_0 (by decide) ?_
  refine lv_istore_n (lv' := [(3, .int (0 : Int32)), (0, .ref a_t), (1, .int x1), (2, .int x2)]) hx hb dX4_ahead_1 rfl hl (by decide) rfl (fun ls hl => ?_)
  refine lv_iload_n hx hb dX4_ahead_2 rfl (lv_at hl 2 rfl) ?_
  refine lv_bipush (v := (6 : Int32)) hx hb dX4_ahead_3 (by decide) ?_
  obtain ⟨r1, hr2, hf⟩ := bnd hf
  refine wcalli (D := D) (cI := cI) (cZ := cZ) (cR := cR) (wc := (wd_X11_inside cI cZ cR)) (w' := (wd_X11_inside cI cZ cR)) [] hP hD hS hA rfl rfl rfl (rnSN (As := [.int x1, .int (6 : Int32)]) X [] hK hP hD rfl rfl (c_X11_inside l D cI cZ cR hr2) ⟨va_cnB (host := "DivisionHall") 2 hts ggX4_ahead_X11_inside rfl rfl rfl (hN.2.1 ("DivisionHall$Motions", 36, yX11_inside, "DivisionHall") (by decide +kernel)) (hts (.initialized RX11) (by decide +kernel)) (by decide +kernel) ⟨Nat.le_of_ble_eq_true rfl, Nat.le_of_ble_eq_true rfl⟩, hts (.static yX11_inside) (by decide +kernel), trivial⟩ rfl hl.1 rfl (Nat.le_of_ble_eq_true rfl) dX4_ahead_5) (fun H locs hP hD hS => ?_)
  have hP : va_P D vwCl (wd_X4_ahead cI cZ cR a_t a_t_first a_t_rank a_t_told a_t_beaten a_t_leads a_t_order t_count t_first_r t_rank_r) H := hP
  have hD : va_D A (wd_X4_ahead cI cZ cR a_t a_t_first a_t_rank a_t_told a_t_beaten a_t_leads a_t_order t_count t_first_r t_rank_r) := hD
  refine lv_if_eq (tgt := 81) hx hb dX4_ahead_8 (by decide) (fun c3 => ?_) (fun c3 => ?_)
  · have hf := ipos c3 hf
    refine lv_iload_n hx hb dX4_ahead_81 rfl (lv_at hl 0 rfl) ?_
    cases hf
    exact reti X hK hP hD hS dX4_ahead_82
  · have hf := ineg c3 hf
    refine lv_iload_n hx hb dX4_ahead_11 rfl (lv_at hl 3 rfl) ?_
    refine lv_bipush (v := (6 : Int32)) hx hb dX4_ahead_12 (by decide) ?_
    obtain ⟨r4, hr5, hf⟩ := bnd hf
    refine wcalli (D := D) (cI := cI) (cZ := cZ) (cR := cR) (wc := (wd_X11_inside cI cZ cR)) (w' := (wd_X11_inside cI cZ cR)) [] hP hD hS hA rfl rfl rfl (rnSN (As := [.int x2, .int (6 : Int32)]) X [] hK hP hD rfl rfl (c_X11_inside l D cI cZ cR hr5) ⟨va_cnB (host := "DivisionHall") 2 hts ggX4_ahead_X11_inside rfl rfl rfl (hN.2.1 ("DivisionHall$Motions", 36, yX11_inside, "DivisionHall") (by decide +kernel)) (hts (.initialized RX11) (by decide +kernel)) (by decide +kernel) ⟨Nat.le_of_ble_eq_true rfl, Nat.le_of_ble_eq_true rfl⟩, hts (.static yX11_inside) (by decide +kernel), trivial⟩ rfl hl.1 rfl (Nat.le_of_ble_eq_true rfl) dX4_ahead_14) (fun H locs hP hD hS => ?_)
    have hP : va_P D vwCl (wd_X4_ahead cI cZ cR a_t a_t_first a_t_rank a_t_told a_t_beaten a_t_leads a_t_order t_count t_first_r t_rank_r) H := hP
    have hD : va_D A (wd_X4_ahead cI cZ cR a_t a_t_first a_t_rank a_t_told a_t_beaten a_t_leads a_t_order t_count t_first_r t_rank_r) := hD
    refine lv_if_eq (tgt := 81) hx hb dX4_ahead_17 (by decide) (fun c6 => ?_) (fun c6 => ?_)
    · have hf := ipos c6 hf
      refine lv_iload_n hx hb dX4_ahead_81 rfl (lv_at hl 0 rfl) ?_
      cases hf
      exact reti X hK hP hD hS dX4_ahead_82
    · have hf := ineg c6 hf
      refine lv_iconst (v := (0 : Int32)) hx hb dX4_ahead_20 (by decide) ?_
      refine lv_istore (lv' := [(4, .int (0 : Int32)), (3, .int (0 : Int32)), (0, .ref a_t), (1, .int x1), (2, .int x2)]) hx hb dX4_ahead_21 hl (by decide) rfl (fun ls hl => ?_)
      exact w_X4_ahead_23 X hK hA _ (0 : Int32) (0 : Int32) hf _ _ hP hD hS _ (lv_sub hl [2, 3, 4, 1, 0] rfl)

abbrev wd_X4_compare (cI cZ cR : ClassId) (a_p1 a_p1_code a_p1_stack a_p1_table a_p2 a_p2_weight a_p2_membersOf a_t a_t_first a_t_rank a_t_told a_t_beaten a_t_leads a_t_order a_p1_table_bits a_p1_table_trade : Nat) (p1_codes p2_in p2_all t_count p1_table_in p1_table_fresh p1_table_tradeSought : Int32) (p1_code_r : Nat → Int32) (p1_stack_r : Nat → Int32) (p2_membersOf_r : Nat → Int32) (p2_weight_r : Nat → Int32) (t_beaten_r : Nat → Int32) (t_first_r : Nat → Int32) (t_rank_r : Nat → Int32) (p1_table_bits_r : Nat → Int32) : va_W := [(a_p1, oB 6 [.ref a_p1_code, .ref a_p1_stack, .ref a_p1_table, .int p1_codes]), (a_p2, oB 7 [.ref a_p2_weight, .ref a_p2_membersOf, .int p2_in, .int p2_all]), (a_t, oB 4 [.ref a_t_first, .ref a_t_rank, .ref a_t_told, .ref a_t_beaten, .ref a_t_leads, .ref a_t_order, .int t_count]), (a_p1_code, aI cI 400 p1_code_r), (a_p1_stack, aI cI 40 p1_stack_r), (a_p1_table, oB 8 [.ref a_p1_table_bits, .ref a_p1_table_trade, .int p1_table_in, .int p1_table_fresh, .int p1_table_tradeSought]), (a_p2_membersOf, aI cI 6 p2_membersOf_r), (a_p2_weight, aI cI 10 p2_weight_r), (a_t_beaten, aI cI 6 t_beaten_r), (a_t_first, aI cI 10 t_first_r), (a_t_rank, aI cI 60 t_rank_r), (a_p1_table_bits, aI cI 32 p1_table_bits_r)]
set_option maxRecDepth 100000 in
theorem in_X4_compare_X4 : ∀ w ∈ wsX40, w ∈ wsX4_compare := by decide +kernel
set_option maxRecDepth 100000 in
theorem in_X4_compare_X7 : ∀ w ∈ wsX70, w ∈ wsX4_compare := by decide +kernel
set_option maxHeartbeats 4000000 in
set_option maxRecDepth 100000 in
theorem w_X4_compare_18 {p : Program} {l : Launch} {e : Env} {s : State} {m : MethodId} {args : Array Value} {below : List Frame} {meth : Method} {c : Code} {D : va_G} {cI cZ cR : ClassId} {A : Nat → Prop} {a_p1 a_p1_code a_p1_stack a_p1_table a_p2 a_p2_weight a_p2_membersOf a_t a_t_first a_t_rank a_t_told a_t_beaten a_t_leads a_t_order a_p1_table_bits a_p1_table_trade : Nat} {p1_codes : Int32} {p2_in : Int32} {p2_all : Int32} {t_count : Int32} {p1_table_in : Int32} {p1_table_fresh : Int32} {p1_table_tradeSought : Int32} {p1_code_r : Nat → Int32} {p2_membersOf_r : Nat → Int32} {p2_weight_r : Nat → Int32} {t_first_r : Nat → Int32} {t_rank_r : Nat → Int32} {p1_table_bits_r : Nat → Int32} {rec2 : Int32 → (Nat → Int32) → (Nat → Int32) → Option ((Nat → Int32) × (Nat → Int32))} {out : (Nat → Int32) × (Nat → Int32)} (X : cx p s m args meth c cX4_compare 5 none RX4 wsX4_compare) (hK : va_K D vwCl (ty3 cI cZ cR) s) (hA : ∀ q, s.heap.size ≤ q → A q) (hrec2 : ∀ (x3 : Int32) (p1_stack_r : Nat → Int32) (t_beaten_r : Nat → Int32), rec2 x3 p1_stack_r t_beaten_r = some out → ∀ (H : Heap) (locs : List Loc), va_P D vwCl (wd_X4_compare cI cZ cR a_p1 a_p1_code a_p1_stack a_p1_table a_p2 a_p2_weight a_p2_membersOf a_t a_t_first a_t_rank a_t_told a_t_beaten a_t_leads a_t_order a_p1_table_bits a_p1_table_trade p1_codes p2_in p2_all t_count p1_table_in p1_table_fresh p1_table_tradeSought p1_code_r p1_stack_r p2_membersOf_r p2_weight_r t_beaten_r t_first_r t_rank_r p1_table_bits_r) H → va_D A (wd_X4_compare cI cZ cR a_p1 a_p1_code a_p1_stack a_p1_table a_p2 a_p2_weight a_p2_membersOf a_t a_t_first a_t_rank a_t_told a_t_beaten a_t_leads a_t_order a_p1_table_bits a_p1_table_trade p1_codes p2_in p2_all t_count p1_table_in p1_table_fresh p1_table_tradeSought p1_code_r p1_stack_r p2_membersOf_r p2_weight_r t_beaten_r t_first_r t_rank_r p1_table_bits_r) → va_S A s.heap H locs → ∀ (ls : Array Slot), lv_has ls 5 [(0, .ref a_t), (1, .ref a_p1), (2, .ref a_p2), (3, .int x3)] → W p l e (headSpec wsX4_compare ({ frames := 4, cells := 0, slots := 0, locals := 93 } : Room)).room s m args below meth c H locs 0 0 (MQ below (qv D cI cZ cR A (wd_X4_compare cI cZ cR a_p1 a_p1_code a_p1_stack a_p1_table a_p2 a_p2_weight a_p2_membersOf a_t a_t_first a_t_rank a_t_told a_t_beaten a_t_leads a_t_order a_p1_table_bits a_p1_table_trade p1_codes p2_in p2_all t_count p1_table_in p1_table_fresh p1_table_tradeSought p1_code_r (out.1) p2_membersOf_r p2_weight_r (out.2) t_first_r t_rank_r p1_table_bits_r)) args s 0 0 A) (F0 m 2 ls [])) : ∀ (n : Nat) (x3 : Int32) (x4 : Int32) (p1_stack_r : Nat → Int32) (t_beaten_r : Nat → Int32), F_X4_compare_18 p1_codes p1_code_r p1_table_fresh p1_table_bits_r p2_all p2_in p2_membersOf_r p2_weight_r t_first_r t_rank_r rec2 n x3 x4 p1_stack_r t_beaten_r = some out → ∀ (H : Heap) (locs : List Loc), va_P D vwCl (wd_X4_compare cI cZ cR a_p1 a_p1_code a_p1_stack a_p1_table a_p2 a_p2_weight a_p2_membersOf a_t a_t_first a_t_rank a_t_told a_t_beaten a_t_leads a_t_order a_p1_table_bits a_p1_table_trade p1_codes p2_in p2_all t_count p1_table_in p1_table_fresh p1_table_tradeSought p1_code_r p1_stack_r p2_membersOf_r p2_weight_r t_beaten_r t_first_r t_rank_r p1_table_bits_r) H → va_D A (wd_X4_compare cI cZ cR a_p1 a_p1_code a_p1_stack a_p1_table a_p2 a_p2_weight a_p2_membersOf a_t a_t_first a_t_rank a_t_told a_t_beaten a_t_leads a_t_order a_p1_table_bits a_p1_table_trade p1_codes p2_in p2_all t_count p1_table_in p1_table_fresh p1_table_tradeSought p1_code_r p1_stack_r p2_membersOf_r p2_weight_r t_beaten_r t_first_r t_rank_r p1_table_bits_r) → va_S A s.heap H locs → ∀ (ls : Array Slot), lv_has ls 5 [(0, .ref a_t), (1, .ref a_p1), (2, .ref a_p2), (3, .int x3), (4, .int x4)] → W p l e (headSpec wsX4_compare ({ frames := 4, cells := 0, slots := 0, locals := 93 } : Room)).room s m args below meth c H locs 0 0 (MQ below (qv D cI cZ cR A (wd_X4_compare cI cZ cR a_p1 a_p1_code a_p1_stack a_p1_table a_p2 a_p2_weight a_p2_membersOf a_t a_t_first a_t_rank a_t_told a_t_beaten a_t_leads a_t_order a_p1_table_bits a_p1_table_trade p1_codes p2_in p2_all t_count p1_table_in p1_table_fresh p1_table_tradeSought p1_code_r (out.1) p2_membersOf_r p2_weight_r (out.2) t_first_r t_rank_r p1_table_bits_r)) args s 0 0 A) (F0 m 18 ls []) := by
  obtain ⟨hx, hb, hml, hr, hown, hts, hlocks, hN⟩ := id X
  intro n
  induction n with
  | zero =>
    intro x3 x4 p1_stack_r t_beaten_r hf
    cases (show (none : Option ((Nat → Int32) × (Nat → Int32))) = some out from hf)
  | succ n ih =>
    intro x3 x4 p1_stack_r t_beaten_r hf H locs hP hD hS ls hl
    rw [F_X4_compare_18] at hf
    refine lv_iload hx hb dX4_compare_18 (lv_at hl 4 rfl) ?_
    refine lv_bipush (v := (6 : Int32)) hx hb dX4_compare_20 (by decide) ?_
    refine lv_icmp_ge (tgt := 70) hx hb dX4_compare_22 (by decide) (fun c3 => ?_) (fun c3 => ?_)
    · have hf := ipos c3 hf
      refine lv_iinc (v := (x3 + (1 : Int32))) (lv' := [(3, .int (x3 + (1 : Int32))), (0, .ref a_t), (1, .ref a_p1), (2, .ref a_p2), (4, .int x4)]) hx hb dX4_compare_70 hl (k := 3) rfl rfl (by decide) rfl (fun ls hl => ?_)
      refine lv_goto (tgt := 2) hx hb dX4_compare_73 (by decide) ?_
      exact hrec2 (x3 + (1 : Int32)) p1_stack_r t_beaten_r hf _ _ hP hD hS _ (lv_sub hl [1, 2, 3, 0] rfl)
    · have hf := ineg c3 hf
      refine lv_iload_n hx hb dX4_compare_25 rfl (lv_at hl 3 rfl) ?_
      refine lv_iload hx hb dX4_compare_26 (lv_at hl 4 rfl) ?_
      refine lv_icmp_eq (tgt := 64) hx hb dX4_compare_28 (by decide) (fun c4 => ?_) (fun c4 => ?_)
      · have hf := ipos c4 hf
        refine lv_iinc (v := (x4 + (1 : Int32))) (lv' := [(4, .int (x4 + (1 : Int32))), (0, .ref a_t), (1, .ref a_p1), (2, .ref a_p2), (3, .int x3)]) hx hb dX4_compare_64 hl (k := 4) rfl rfl (by decide) rfl (fun ls hl => ?_)
        refine lv_goto (tgt := 18) hx hb dX4_compare_67 (by decide) ?_
        exact ih x3 (x4 + (1 : Int32)) p1_stack_r t_beaten_r hf _ _ hP hD hS _ (lv_sub hl [1, 2, 3, 4, 0] rfl)
      · have hf := ineg c4 hf
        refine lv_aload_n hx hb dX4_compare_31 rfl (lv_at hl 1 rfl) ?_
        refine lv_aload_n hx hb dX4_compare_32 rfl (lv_at hl 0 rfl) ?_
        refine lv_iload_n hx hb dX4_compare_33 rfl (lv_at hl 3 rfl) ?_
        refine lv_iload hx hb dX4_compare_34 (lv_at hl 4 rfl) ?_
        obtain ⟨r5, hr6, hf⟩ := bnd hf
        refine wcalli (D := D) (cI := cI) (cZ := cZ) (cR := cR) (wc := (wd_X4_ahead cI cZ cR a_t a_t_first a_t_rank a_t_told a_t_beaten a_t_leads a_t_order t_count t_first_r t_rank_r)) (w' := (wd_X4_ahead cI cZ cR a_t a_t_first a_t_rank a_t_told a_t_beaten a_t_leads a_t_order t_count t_first_r t_rank_r)) [2, 9, 10] hP hD hS hA rfl rfl rfl (rnV (As := [.int x3, .int x4]) (ci := 4) (q0 := 2) X [2, 9, 10] hK hP hD rfl rfl rfl rfl (c_X4_ahead l D cI cZ cR hr6) (cwV 2 hts gX4_compare_X4_ahead rfl rfl rfl (by decide +kernel) ⟨Nat.le_of_ble_eq_true rfl, Nat.le_of_ble_eq_true rfl⟩) rfl hl.1 rfl (Nat.le_of_ble_eq_true rfl) dX4_compare_36) (fun H locs hP hD hS => ?_)
        have hP : va_P D vwCl (wd_X4_compare cI cZ cR a_p1 a_p1_code a_p1_stack a_p1_table a_p2 a_p2_weight a_p2_membersOf a_t a_t_first a_t_rank a_t_told a_t_beaten a_t_leads a_t_order a_p1_table_bits a_p1_table_trade p1_codes p2_in p2_all t_count p1_table_in p1_table_fresh p1_table_tradeSought p1_code_r p1_stack_r p2_membersOf_r p2_weight_r t_beaten_r t_first_r t_rank_r p1_table_bits_r) H := hP
        have hD : va_D A (wd_X4_compare cI cZ cR a_p1 a_p1_code a_p1_stack a_p1_table a_p2 a_p2_weight a_p2_membersOf a_t a_t_first a_t_rank a_t_told a_t_beaten a_t_leads a_t_order a_p1_table_bits a_p1_table_trade p1_codes p2_in p2_all t_count p1_table_in p1_table_fresh p1_table_tradeSought p1_code_r p1_stack_r p2_membersOf_r p2_weight_r t_beaten_r t_first_r t_rank_r p1_table_bits_r) := hD
        refine lv_aload_n hx hb dX4_compare_39 rfl (lv_at hl 2 rfl) ?_
        refine va_getN (D := D) (ci := 7) (v := .int p2_in) (C := RX7) (T := TX7) (N := 4) hx hb hts in_X4_compare_X7 hown hK hP 1 rfl rfl 2 (by decide) (va_Nw.use rfl (hN.1 ("DivisionHall$Motions", 53, "DivisionHall$Seats", "in", "I", "DivisionHall") (by decide +kernel))) (fun _ h9 => h9) rfl dX4_compare_40 ?_
        refine lv_iand hx hb dX4_compare_43 ?_
        refine lv_aload_n hx hb dX4_compare_44 rfl (lv_at hl 2 rfl) ?_
        obtain ⟨r7, hr8, hf⟩ := bnd hf
        refine wcalli (D := D) (cI := cI) (cZ := cZ) (cR := cR) (wc := (wd_X6_passes cI cZ cR a_p2 a_p2_weight a_p2_membersOf a_p1 a_p1_code a_p1_stack a_p1_table a_p1_table_bits a_p1_table_trade p2_in p2_all p1_codes p1_table_in p1_table_fresh p1_table_tradeSought p2_membersOf_r p2_weight_r p1_code_r p1_stack_r p1_table_bits_r)) (w' := (wd_X6_passes cI cZ cR a_p2 a_p2_weight a_p2_membersOf a_p1 a_p1_code a_p1_stack a_p1_table a_p1_table_bits a_p1_table_trade p2_in p2_all p1_codes p1_table_in p1_table_fresh p1_table_tradeSought p2_membersOf_r p2_weight_r p1_code_r (r7.2) p1_table_bits_r)) [1, 0, 6, 7, 3, 4, 5, 11] hP hD hS hA rfl rfl rfl (rnV (As := [.int (r5 &&& p2_in), .ref a_p2]) (ci := 6) (q0 := 0) X [1, 0, 6, 7, 3, 4, 5, 11] hK hP hD rfl rfl rfl rfl (c_X6_passes l D cI cZ cR hr8) (cwV 2 hts gX4_compare_X6_passes rfl rfl rfl (by decide +kernel) ⟨Nat.le_of_ble_eq_true rfl, Nat.le_of_ble_eq_true rfl⟩) rfl hl.1 rfl (Nat.le_of_ble_eq_true rfl) dX4_compare_45) (fun H locs hP hD hS => ?_)
        have hP : va_P D vwCl (wd_X4_compare cI cZ cR a_p1 a_p1_code a_p1_stack a_p1_table a_p2 a_p2_weight a_p2_membersOf a_t a_t_first a_t_rank a_t_told a_t_beaten a_t_leads a_t_order a_p1_table_bits a_p1_table_trade p1_codes p2_in p2_all t_count p1_table_in p1_table_fresh p1_table_tradeSought p1_code_r (r7.2) p2_membersOf_r p2_weight_r t_beaten_r t_first_r t_rank_r p1_table_bits_r) H := hP
        have hD : va_D A (wd_X4_compare cI cZ cR a_p1 a_p1_code a_p1_stack a_p1_table a_p2 a_p2_weight a_p2_membersOf a_t a_t_first a_t_rank a_t_told a_t_beaten a_t_leads a_t_order a_p1_table_bits a_p1_table_trade p1_codes p2_in p2_all t_count p1_table_in p1_table_fresh p1_table_tradeSought p1_code_r (r7.2) p2_membersOf_r p2_weight_r t_beaten_r t_first_r t_rank_r p1_table_bits_r) := hD
        refine lv_if_eq (tgt := 64) hx hb dX4_compare_48 (by decide) (fun c9 => ?_) (fun c9 => ?_)
        · have hf := ipos c9 hf
          refine lv_iinc (v := (x4 + (1 : Int32))) (lv' := [(4, .int (x4 + (1 : Int32))), (0, .ref a_t), (1, .ref a_p1), (2, .ref a_p2), (3, .int x3)]) hx hb dX4_compare_64 hl (k := 4) rfl rfl (by decide) rfl (fun ls hl => ?_)
          refine lv_goto (tgt := 18) hx hb dX4_compare_67 (by decide) ?_
          exact ih x3 (x4 + (1 : Int32)) (r7.2) t_beaten_r hf _ _ hP hD hS _ (lv_sub hl [1, 2, 3, 4, 0] rfl)
        · have hf := ineg c9 hf
          refine lv_aload_n hx hb dX4_compare_51 rfl (lv_at hl 0 rfl) ?_
          refine va_get (D := D) (ci := 4) (v := .ref a_t_beaten) (C := RX4) (T := TX4) (N := 7) hx hb hts in_X4_compare_X4 hown hK hP 2 rfl rfl 3 (by decide) (hts (.fieldLink RX4 21 "DivisionHall$Motions" "beaten" "[I") (by decide +kernel)) (fun _ h9 => h9) rfl dX4_compare_52 ?_
          refine lv_iload_n hx hb dX4_compare_55 rfl (lv_at hl 3 rfl) ?_
          refine lv_dup2_11 hx hb dX4_compare_56 rfl rfl ?_
          obtain ⟨hi10, hf⟩ := gin_s hf
          refine va_iald hx hb hK hP 8 0 rfl rfl hi10 dX4_compare_57 ?_
          refine lv_iconst (v := (1 : Int32)) hx hb dX4_compare_58 (by decide) ?_
          refine lv_iload hx hb dX4_compare_59 (lv_at hl 4 rfl) ?_
          refine lv_ishl hx hb dX4_compare_61 ?_
          refine lv_ior hx hb dX4_compare_62 ?_
          obtain ⟨hi11, hf⟩ := gin_s hf
          refine va_iast hx hb hK hP hD hS 8 0 rfl rfl hi11 dX4_compare_63 (fun H locs hP hD hS => ?_)
          have hP : va_P D vwCl (wd_X4_compare cI cZ cR a_p1 a_p1_code a_p1_stack a_p1_table a_p2 a_p2_weight a_p2_membersOf a_t a_t_first a_t_rank a_t_told a_t_beaten a_t_leads a_t_order a_p1_table_bits a_p1_table_trade p1_codes p2_in p2_all t_count p1_table_in p1_table_fresh p1_table_tradeSought p1_code_r (r7.2) p2_membersOf_r p2_weight_r (upd t_beaten_r (x3).toNatClampNeg ((t_beaten_r (x3).toNatClampNeg) ||| ((1 : Int32) <<< (x4 &&& 31)))) t_first_r t_rank_r p1_table_bits_r) H := hP
          have hD : va_D A (wd_X4_compare cI cZ cR a_p1 a_p1_code a_p1_stack a_p1_table a_p2 a_p2_weight a_p2_membersOf a_t a_t_first a_t_rank a_t_told a_t_beaten a_t_leads a_t_order a_p1_table_bits a_p1_table_trade p1_codes p2_in p2_all t_count p1_table_in p1_table_fresh p1_table_tradeSought p1_code_r (r7.2) p2_membersOf_r p2_weight_r (upd t_beaten_r (x3).toNatClampNeg ((t_beaten_r (x3).toNatClampNeg) ||| ((1 : Int32) <<< (x4 &&& 31)))) t_first_r t_rank_r p1_table_bits_r) := hD
          refine lv_iinc (v := (x4 + (1 : Int32))) (lv' := [(4, .int (x4 + (1 : Int32))), (0, .ref a_t), (1, .ref a_p1), (2, .ref a_p2), (3, .int x3)]) hx hb dX4_compare_64 hl (k := 4) rfl rfl (by decide) rfl (fun ls hl => ?_)
          refine lv_goto (tgt := 18) hx hb dX4_compare_67 (by decide) ?_
          exact ih x3 (x4 + (1 : Int32)) (r7.2) (upd t_beaten_r (x3).toNatClampNeg ((t_beaten_r (x3).toNatClampNeg) ||| ((1 : Int32) <<< (x4 &&& 31)))) hf _ _ hP hD hS _ (lv_sub hl [1, 2, 3, 4, 0] rfl)
set_option maxHeartbeats 4000000 in
set_option maxRecDepth 100000 in
theorem w_X4_compare_2 {p : Program} {l : Launch} {e : Env} {s : State} {m : MethodId} {args : Array Value} {below : List Frame} {meth : Method} {c : Code} {D : va_G} {cI cZ cR : ClassId} {A : Nat → Prop} {a_p1 a_p1_code a_p1_stack a_p1_table a_p2 a_p2_weight a_p2_membersOf a_t a_t_first a_t_rank a_t_told a_t_beaten a_t_leads a_t_order a_p1_table_bits a_p1_table_trade : Nat} {p1_codes : Int32} {p2_in : Int32} {p2_all : Int32} {t_count : Int32} {p1_table_in : Int32} {p1_table_fresh : Int32} {p1_table_tradeSought : Int32} {p1_code_r : Nat → Int32} {p2_membersOf_r : Nat → Int32} {p2_weight_r : Nat → Int32} {t_first_r : Nat → Int32} {t_rank_r : Nat → Int32} {p1_table_bits_r : Nat → Int32} {out : (Nat → Int32) × (Nat → Int32)} (X : cx p s m args meth c cX4_compare 5 none RX4 wsX4_compare) (hK : va_K D vwCl (ty3 cI cZ cR) s) (hA : ∀ q, s.heap.size ≤ q → A q) : ∀ (n : Nat) (x3 : Int32) (p1_stack_r : Nat → Int32) (t_beaten_r : Nat → Int32), F_X4_compare_2 p1_codes p1_code_r p1_table_fresh p1_table_bits_r p2_all p2_in p2_membersOf_r p2_weight_r t_first_r t_rank_r n x3 p1_stack_r t_beaten_r = some out → ∀ (H : Heap) (locs : List Loc), va_P D vwCl (wd_X4_compare cI cZ cR a_p1 a_p1_code a_p1_stack a_p1_table a_p2 a_p2_weight a_p2_membersOf a_t a_t_first a_t_rank a_t_told a_t_beaten a_t_leads a_t_order a_p1_table_bits a_p1_table_trade p1_codes p2_in p2_all t_count p1_table_in p1_table_fresh p1_table_tradeSought p1_code_r p1_stack_r p2_membersOf_r p2_weight_r t_beaten_r t_first_r t_rank_r p1_table_bits_r) H → va_D A (wd_X4_compare cI cZ cR a_p1 a_p1_code a_p1_stack a_p1_table a_p2 a_p2_weight a_p2_membersOf a_t a_t_first a_t_rank a_t_told a_t_beaten a_t_leads a_t_order a_p1_table_bits a_p1_table_trade p1_codes p2_in p2_all t_count p1_table_in p1_table_fresh p1_table_tradeSought p1_code_r p1_stack_r p2_membersOf_r p2_weight_r t_beaten_r t_first_r t_rank_r p1_table_bits_r) → va_S A s.heap H locs → ∀ (ls : Array Slot), lv_has ls 5 [(0, .ref a_t), (1, .ref a_p1), (2, .ref a_p2), (3, .int x3)] → W p l e (headSpec wsX4_compare ({ frames := 4, cells := 0, slots := 0, locals := 93 } : Room)).room s m args below meth c H locs 0 0 (MQ below (qv D cI cZ cR A (wd_X4_compare cI cZ cR a_p1 a_p1_code a_p1_stack a_p1_table a_p2 a_p2_weight a_p2_membersOf a_t a_t_first a_t_rank a_t_told a_t_beaten a_t_leads a_t_order a_p1_table_bits a_p1_table_trade p1_codes p2_in p2_all t_count p1_table_in p1_table_fresh p1_table_tradeSought p1_code_r (out.1) p2_membersOf_r p2_weight_r (out.2) t_first_r t_rank_r p1_table_bits_r)) args s 0 0 A) (F0 m 2 ls []) := by
  obtain ⟨hx, hb, hml, hr, hown, hts, hlocks, hN⟩ := id X
  intro n
  induction n with
  | zero =>
    intro x3 p1_stack_r t_beaten_r hf
    cases (show (none : Option ((Nat → Int32) × (Nat → Int32))) = some out from hf)
  | succ n ih =>
    intro x3 p1_stack_r t_beaten_r hf H locs hP hD hS ls hl
    rw [F_X4_compare_2] at hf
    refine lv_iload_n hx hb dX4_compare_2 rfl (lv_at hl 3 rfl) ?_
    refine lv_bipush (v := (6 : Int32)) hx hb dX4_compare_3 (by decide) ?_
    refine lv_icmp_ge (tgt := 76) hx hb dX4_compare_5 (by decide) (fun c1 => ?_) (fun c1 => ?_)
    · have hf := ipos c1 hf
      cases hf
      exact retv X hK hP hD hS dX4_compare_76
    · have hf := ineg c1 hf
      refine lv_aload_n hx hb dX4_compare_8 rfl (lv_at hl 0 rfl) ?_
      refine va_get (D := D) (ci := 4) (v := .ref a_t_beaten) (C := RX4) (T := TX4) (N := 7) hx hb hts in_X4_compare_X4 hown hK hP 2 rfl rfl 3 (by decide) (hts (.fieldLink RX4 21 "DivisionHall$Motions" "beaten" "[I") (by decide +kernel)) (fun _ h9 => h9) rfl dX4_compare_9 ?_
      refine lv_iload_n hx hb dX4_compare_12 rfl (lv_at hl 3 rfl) ?_
      refine lv_iconst (v := (0 : Int32)) hx hb dX4_compare_13 (by decide) ?_
      obtain ⟨hi2, hf⟩ := gin_s hf
      refine va_iast hx hb hK hP hD hS 8 0 rfl rfl hi2 dX4_compare_14 (fun H locs hP hD hS => ?_)
      have hP : va_P D vwCl (wd_X4_compare cI cZ cR a_p1 a_p1_code a_p1_stack a_p1_table a_p2 a_p2_weight a_p2_membersOf a_t a_t_first a_t_rank a_t_told a_t_beaten a_t_leads a_t_order a_p1_table_bits a_p1_table_trade p1_codes p2_in p2_all t_count p1_table_in p1_table_fresh p1_table_tradeSought p1_code_r p1_stack_r p2_membersOf_r p2_weight_r (upd t_beaten_r (x3).toNatClampNeg (0 : Int32)) t_first_r t_rank_r p1_table_bits_r) H := hP
      have hD : va_D A (wd_X4_compare cI cZ cR a_p1 a_p1_code a_p1_stack a_p1_table a_p2 a_p2_weight a_p2_membersOf a_t a_t_first a_t_rank a_t_told a_t_beaten a_t_leads a_t_order a_p1_table_bits a_p1_table_trade p1_codes p2_in p2_all t_count p1_table_in p1_table_fresh p1_table_tradeSought p1_code_r p1_stack_r p2_membersOf_r p2_weight_r (upd t_beaten_r (x3).toNatClampNeg (0 : Int32)) t_first_r t_rank_r p1_table_bits_r) := hD
      refine lv_iconst (v := (0 : Int32)) hx hb dX4_compare_15 (by decide) ?_
      refine lv_istore (lv' := [(4, .int (0 : Int32)), (0, .ref a_t), (1, .ref a_p1), (2, .ref a_p2), (3, .int x3)]) hx hb dX4_compare_16 hl (by decide) rfl (fun ls hl => ?_)
      exact w_X4_compare_18 X hK hA ih _ x3 (0 : Int32) p1_stack_r (upd t_beaten_r (x3).toNatClampNeg (0 : Int32)) hf _ _ hP hD hS _ (lv_sub hl [1, 2, 3, 4, 0] rfl)
set_option maxHeartbeats 4000000 in
set_option maxRecDepth 100000 in
theorem c_X4_compare (l : Launch) (D : va_G) (cI cZ cR : ClassId) {a_p1 a_p1_code a_p1_stack a_p1_table a_p2 a_p2_weight a_p2_membersOf a_t a_t_first a_t_rank a_t_told a_t_beaten a_t_leads a_t_order a_p1_table_bits a_p1_table_trade : Nat} {p1_codes : Int32} {p2_in : Int32} {p2_all : Int32} {t_count : Int32} {p1_table_in : Int32} {p1_table_fresh : Int32} {p1_table_tradeSought : Int32} {p1_code_r : Nat → Int32} {p1_stack_r : Nat → Int32} {p2_membersOf_r : Nat → Int32} {p2_weight_r : Nat → Int32} {t_beaten_r : Nat → Int32} {t_first_r : Nat → Int32} {t_rank_r : Nat → Int32} {p1_table_bits_r : Nat → Int32} {sz : Nat} {out : (Nat → Int32) × (Nat → Int32)} (hf : F_X4_compare p1_codes p1_code_r p1_stack_r p1_table_fresh p1_table_bits_r p2_all p2_in p2_membersOf_r p2_weight_r t_beaten_r t_first_r t_rank_r = some out) : CV l yX4_compare wsX4_compare ({ frames := 4, cells := 0, slots := 0, locals := 93 } : Room) D cI cZ cR [.ref a_t, .ref a_p1, .ref a_p2] (wd_X4_compare cI cZ cR a_p1 a_p1_code a_p1_stack a_p1_table a_p2 a_p2_weight a_p2_membersOf a_t a_t_first a_t_rank a_t_told a_t_beaten a_t_leads a_t_order a_p1_table_bits a_p1_table_trade p1_codes p2_in p2_all t_count p1_table_in p1_table_fresh p1_table_tradeSought p1_code_r p1_stack_r p2_membersOf_r p2_weight_r t_beaten_r t_first_r t_rank_r p1_table_bits_r) sz (wd_X4_compare cI cZ cR a_p1 a_p1_code a_p1_stack a_p1_table a_p2 a_p2_weight a_p2_membersOf a_t a_t_first a_t_rank a_t_told a_t_beaten a_t_leads a_t_order a_p1_table_bits a_p1_table_trade p1_codes p2_in p2_all t_count p1_table_in p1_table_fresh p1_table_tradeSought p1_code_r (out.1) p2_membersOf_r p2_weight_r (out.2) t_first_r t_rank_r p1_table_bits_r) := by
  refine met_of (Qf := fun A => qv D cI cZ cR A (wd_X4_compare cI cZ cR a_p1 a_p1_code a_p1_stack a_p1_table a_p2 a_p2_weight a_p2_membersOf a_t a_t_first a_t_rank a_t_told a_t_beaten a_t_leads a_t_order a_p1_table_bits a_p1_table_trade p1_codes p2_in p2_all t_count p1_table_in p1_table_fresh p1_table_tradeSought p1_code_r (out.1) p2_membersOf_r p2_weight_r (out.2) t_first_r t_rank_r p1_table_bits_r)) RX4 (by decide +kernel) rfl rfl (Nat.le_of_ble_eq_true rfl) ?_
  intro p e s m below meth c A X hK hA hP hD hS ls hl
  have hl : lv_has ls 5 [(0, .ref a_t), (1, .ref a_p1), (2, .ref a_p2)] := hl
  obtain ⟨hx, hb, hml, hr, hown, hts, hlocks, hN⟩ := id X
  unfold F_X4_compare at hf
  refine lv_iconst (v := (0 : Int32)) hx hb dX4_compare_0 (by decide) ?_
  refine lv_istore_n (lv' := [(3, .int (0 : Int32)), (0, .ref a_t), (1, .ref a_p1), (2, .ref a_p2)]) hx hb dX4_compare_1 rfl hl (by decide) rfl (fun ls hl => ?_)
  exact w_X4_compare_2 X hK hA _ (0 : Int32) p1_stack_r t_beaten_r hf _ _ hP hD hS _ (lv_sub hl [1, 2, 3, 0] rfl)

abbrev wd_X4_beats (cI cZ cR : ClassId) (a_t a_t_first a_t_rank a_t_told a_t_beaten a_t_leads a_t_order : Nat) (t_count : Int32) (t_beaten_r : Nat → Int32) : va_W := [(a_t, oB 4 [.ref a_t_first, .ref a_t_rank, .ref a_t_told, .ref a_t_beaten, .ref a_t_leads, .ref a_t_order, .int t_count]), (a_t_beaten, aI cI 6 t_beaten_r)]
set_option maxRecDepth 100000 in
theorem in_X4_beats_X4 : ∀ w ∈ wsX40, w ∈ wsX4_beats := by decide +kernel
set_option maxHeartbeats 4000000 in
set_option maxRecDepth 100000 in
theorem c_X4_beats (l : Launch) (D : va_G) (cI cZ cR : ClassId) {a_t a_t_first a_t_rank a_t_told a_t_beaten a_t_leads a_t_order : Nat} {t_count : Int32} {t_beaten_r : Nat → Int32} {x1 : Int32} {x2 : Int32} {sz : Nat} {out : Int32} (hf : F_X4_beats x1 x2 t_beaten_r = some out) : CI l yX4_beats wsX4_beats ({ frames := 1, cells := 0, slots := 0, locals := 21 } : Room) D cI cZ cR [.ref a_t, .int x1, .int x2] (wd_X4_beats cI cZ cR a_t a_t_first a_t_rank a_t_told a_t_beaten a_t_leads a_t_order t_count t_beaten_r) sz (out) (wd_X4_beats cI cZ cR a_t a_t_first a_t_rank a_t_told a_t_beaten a_t_leads a_t_order t_count t_beaten_r) := by
  refine met_of (Qf := fun A => qi D cI cZ cR A (out) (wd_X4_beats cI cZ cR a_t a_t_first a_t_rank a_t_told a_t_beaten a_t_leads a_t_order t_count t_beaten_r)) RX4 (by decide +kernel) rfl rfl (Nat.le_of_ble_eq_true rfl) ?_
  intro p e s m below meth c A X hK hA hP hD hS ls hl
  have hl : lv_has ls 3 [(0, .ref a_t), (1, .int x1), (2, .int x2)] := hl
  obtain ⟨hx, hb, hml, hr, hown, hts, hlocks, hN⟩ := id X
  unfold F_X4_beats at hf
  refine lv_iload_n hx hb dX4_beats_0 rfl (lv_at hl 1 rfl) ?_
  refine lv_bipush (v := (6 : Int32)) hx hb dX4_beats_1 (by decide) ?_
  obtain ⟨r1, hr2, hf⟩ := bnd hf
  refine wcalli (D := D) (cI := cI) (cZ := cZ) (cR := cR) (wc := (wd_X11_inside cI cZ cR)) (w' := (wd_X11_inside cI cZ cR)) [] hP hD hS hA rfl rfl rfl (rnSN (As := [.int x1, .int (6 : Int32)]) X [] hK hP hD rfl rfl (c_X11_inside l D cI cZ cR hr2) ⟨va_cnB (host := "DivisionHall") 2 hts ggX4_beats_X11_inside rfl rfl rfl (hN.2.1 ("DivisionHall$Motions", 36, yX11_inside, "DivisionHall") (by decide +kernel)) (hts (.initialized RX11) (by decide +kernel)) (by decide +kernel) ⟨Nat.le_of_ble_eq_true rfl, Nat.le_of_ble_eq_true rfl⟩, hts (.static yX11_inside) (by decide +kernel), trivial⟩ rfl hl.1 rfl (Nat.le_of_ble_eq_true rfl) dX4_beats_3) (fun H locs hP hD hS => ?_)
  have hP : va_P D vwCl (wd_X4_beats cI cZ cR a_t a_t_first a_t_rank a_t_told a_t_beaten a_t_leads a_t_order t_count t_beaten_r) H := hP
  have hD : va_D A (wd_X4_beats cI cZ cR a_t a_t_first a_t_rank a_t_told a_t_beaten a_t_leads a_t_order t_count t_beaten_r) := hD
  refine lv_if_eq (tgt := 35) hx hb dX4_beats_6 (by decide) (fun c3 => ?_) (fun c3 => ?_)
  · have hf := ipos c3 hf
    refine lv_iconst (v := (0 : Int32)) hx hb dX4_beats_35 (by decide) ?_
    cases hf
    exact retz (Or.inl rfl) X hK hP hD hS dX4_beats_36
  · have hf := ineg c3 hf
    refine lv_iload_n hx hb dX4_beats_9 rfl (lv_at hl 2 rfl) ?_
    refine lv_bipush (v := (6 : Int32)) hx hb dX4_beats_10 (by decide) ?_
    obtain ⟨r4, hr5, hf⟩ := bnd hf
    refine wcalli (D := D) (cI := cI) (cZ := cZ) (cR := cR) (wc := (wd_X11_inside cI cZ cR)) (w' := (wd_X11_inside cI cZ cR)) [] hP hD hS hA rfl rfl rfl (rnSN (As := [.int x2, .int (6 : Int32)]) X [] hK hP hD rfl rfl (c_X11_inside l D cI cZ cR hr5) ⟨va_cnB (host := "DivisionHall") 2 hts ggX4_beats_X11_inside rfl rfl rfl (hN.2.1 ("DivisionHall$Motions", 36, yX11_inside, "DivisionHall") (by decide +kernel)) (hts (.initialized RX11) (by decide +kernel)) (by decide +kernel) ⟨Nat.le_of_ble_eq_true rfl, Nat.le_of_ble_eq_true rfl⟩, hts (.static yX11_inside) (by decide +kernel), trivial⟩ rfl hl.1 rfl (Nat.le_of_ble_eq_true rfl) dX4_beats_12) (fun H locs hP hD hS => ?_)
    have hP : va_P D vwCl (wd_X4_beats cI cZ cR a_t a_t_first a_t_rank a_t_told a_t_beaten a_t_leads a_t_order t_count t_beaten_r) H := hP
    have hD : va_D A (wd_X4_beats cI cZ cR a_t a_t_first a_t_rank a_t_told a_t_beaten a_t_leads a_t_order t_count t_beaten_r) := hD
    refine lv_if_eq (tgt := 35) hx hb dX4_beats_15 (by decide) (fun c6 => ?_) (fun c6 => ?_)
    · have hf := ipos c6 hf
      refine lv_iconst (v := (0 : Int32)) hx hb dX4_beats_35 (by decide) ?_
      cases hf
      exact retz (Or.inl rfl) X hK hP hD hS dX4_beats_36
    · have hf := ineg c6 hf
      refine lv_aload_n hx hb dX4_beats_18 rfl (lv_at hl 0 rfl) ?_
      refine va_get (D := D) (ci := 4) (v := .ref a_t_beaten) (C := RX4) (T := TX4) (N := 7) hx hb hts in_X4_beats_X4 hown hK hP 0 rfl rfl 3 (by decide) (hts (.fieldLink RX4 21 "DivisionHall$Motions" "beaten" "[I") (by decide +kernel)) (fun _ h9 => h9) rfl dX4_beats_19 ?_
      refine lv_iload_n hx hb dX4_beats_22 rfl (lv_at hl 1 rfl) ?_
      obtain ⟨hi7, hf⟩ := gin_s hf
      refine va_iald hx hb hK hP 1 0 rfl rfl hi7 dX4_beats_23 ?_
      refine lv_iload_n hx hb dX4_beats_24 rfl (lv_at hl 2 rfl) ?_
      obtain ⟨r8, hr9, hf⟩ := bnd hf
      refine wcalli (D := D) (cI := cI) (cZ := cZ) (cR := cR) (wc := (wd_X11_has cI cZ cR)) (w' := (wd_X11_has cI cZ cR)) [] hP hD hS hA rfl rfl rfl (rnSN (As := [.int (t_beaten_r (x1).toNatClampNeg), .int x2]) X [] hK hP hD rfl rfl (c_X11_has l D cI cZ cR hr9) ⟨va_cnB (host := "DivisionHall") 2 hts ggX4_beats_X11_has rfl rfl rfl (hN.2.1 ("DivisionHall$Motions", 40, yX11_has, "DivisionHall") (by decide +kernel)) (hts (.initialized RX11) (by decide +kernel)) (by decide +kernel) ⟨Nat.le_of_ble_eq_true rfl, Nat.le_of_ble_eq_true rfl⟩, hts (.static yX11_has) (by decide +kernel), trivial⟩ rfl hl.1 rfl (Nat.le_of_ble_eq_true rfl) dX4_beats_25) (fun H locs hP hD hS => ?_)
      have hP : va_P D vwCl (wd_X4_beats cI cZ cR a_t a_t_first a_t_rank a_t_told a_t_beaten a_t_leads a_t_order t_count t_beaten_r) H := hP
      have hD : va_D A (wd_X4_beats cI cZ cR a_t a_t_first a_t_rank a_t_told a_t_beaten a_t_leads a_t_order t_count t_beaten_r) := hD
      refine lv_if_eq (tgt := 35) hx hb dX4_beats_28 (by decide) (fun c10 => ?_) (fun c10 => ?_)
      · have hf := ipos c10 hf
        refine lv_iconst (v := (0 : Int32)) hx hb dX4_beats_35 (by decide) ?_
        cases hf
        exact retz (Or.inl rfl) X hK hP hD hS dX4_beats_36
      · have hf := ineg c10 hf
        refine lv_iconst (v := (1 : Int32)) hx hb dX4_beats_31 (by decide) ?_
        refine lv_goto (tgt := 36) hx hb dX4_beats_32 (by decide) ?_
        cases hf
        exact retz (Or.inr rfl) X hK hP hD hS dX4_beats_36
