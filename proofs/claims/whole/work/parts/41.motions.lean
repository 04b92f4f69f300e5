abbrev wd_X4_firstOf (cI cZ cR : ClassId) (a_t a_t_first a_t_rank a_t_told a_t_beaten a_t_leads a_t_order : Nat) (t_count : Int32) (t_first_r : Nat → Int32) : va_W := [(a_t, oB 4 [.ref a_t_first, .ref a_t_rank, .ref a_t_told, .ref a_t_beaten, .ref a_t_leads, .ref a_t_order, .int t_count]), (a_t_first, aI cI 10 t_first_r)]
def F_X4_firstOf (x1 : Int32) (t_first_r : Nat → Int32) : Option (Int32) := ((F_X11_inside x1 (10 : Int32)).bind (fun r1 => (if r1 = 0 then (some (-1 : Int32)) else (gin x1 10 (some (t_first_r (x1).toNatClampNeg))))))
set_option maxRecDepth 100000 in
theorem in_X4_firstOf_X4 : ∀ w ∈ wsX40, w ∈ wsX4_firstOf := by decide +kernel
set_option maxHeartbeats 4000000 in
set_option maxRecDepth 100000 in
theorem c_X4_firstOf (l : Launch) (D : va_G) (cI cZ cR : ClassId) {a_t a_t_first a_t_rank a_t_told a_t_beaten a_t_leads a_t_order : Nat} {t_count : Int32} {t_first_r : Nat → Int32} {x1 : Int32} {sz : Nat} {out : Int32} (hf : F_X4_firstOf x1 t_first_r = some out) : CI l yX4_firstOf wsX4_firstOf ({ frames := 1, cells := 0, slots := 0, locals := 21 } : Room) D cI cZ cR [.ref a_t, .int x1] (wd_X4_firstOf cI cZ cR a_t a_t_first a_t_rank a_t_told a_t_beaten a_t_leads a_t_order t_count t_first_r) sz (out) (wd_X4_firstOf cI cZ cR a_t a_t_first a_t_rank a_t_told a_t_beaten a_t_leads a_t_order t_count t_first_r) := by
  refine met_of (Qf := fun A => qi D cI cZ cR A (out) (wd_X4_firstOf cI cZ cR a_t a_t_first a_t_rank a_t_told a_t_beaten a_t_leads a_t_order t_count t_first_r)) RX4 (by decide +kernel) rfl rfl (Nat.le_of_ble_eq_true rfl) ?_
  intro p e s m below meth c A X hK hA hP hD hS ls hl
  have hl : lv_has ls 2 [(0, .ref a_t), (1, .int x1)] := hl
  obtain ⟨hx, hb, hml, hr, hown, hts, hlocks, hN⟩ := id X
  unfold F_X4_firstOf at hf
  refine lv_iload_n hx hb dX4_firstOf_0 rfl (lv_at hl 1 rfl) ?_
  refine lv_bipush (v := (10 : Int32)) hx hb dX4_firstOf_1 (by decide) ?_
  obtain ⟨r1, hr2, hf⟩ := bnd hf
  refine wcalli (D := D) (cI := cI) (cZ := cZ) (cR := cR) (wc := (wd_X11_inside cI cZ cR)) (w' := (wd_X11_inside cI cZ cR)) [] hP hD hS hA rfl rfl rfl (rnSN (As := [.int x1, .int (10 : Int32)]) X [] hK hP hD rfl rfl (c_X11_inside l D cI cZ cR hr2) ⟨va_cnB (host := "DivisionHall") 2 hts ggX4_firstOf_X11_inside rfl rfl rfl (hN.2.1 ("DivisionHall$Motions", 36, yX11_inside, "DivisionHall") (by decide +kernel)) (hts (.initialized RX11) (by decide +kernel)) (by decide +kernel) ⟨Nat.le_of_ble_eq_true rfl, Nat.le_of_ble_eq_true rfl⟩, hts (.static yX11_inside) (by decide +kernel), trivial⟩ rfl hl.1 rfl (Nat.le_of_ble_eq_true rfl) dX4_firstOf_3) (fun H locs hP hD hS => ?_)
  have hP : va_P D vwCl (wd_X4_firstOf cI cZ cR a_t a_t_first a_t_rank a_t_told a_t_beaten a_t_leads a_t_order t_count t_first_r) H := hP
  have hD : va_D A (wd_X4_firstOf cI cZ cR a_t a_t_first a_t_rank a_t_told a_t_beaten a_t_leads a_t_order t_count t_first_r) := hD
  refine lv_if_eq (tgt := 18) hx hb dX4_firstOf_6 (by decide) (fun c3 => ?_) (fun c3 => ?_)
  · have hf := ipos c3 hf
    refine lv_iconst (v := (-1 : Int32)) hx hb dX4_firstOf_18 (by decide) ?_
    cases hf
    exact reti X hK hP hD hS dX4_firstOf_19
  · have hf := ineg c3 hf
    refine lv_aload_n hx hb dX4_firstOf_9 rfl (lv_at hl 0 rfl) ?_
    refine va_get (D := D) (ci := 4) (v := .ref a_t_first) (C := RX4) (T := TX4) (N := 7) hx hb hts in_X4_firstOf_X4 hown hK hP 0 rfl rfl 0 (by decide) (hts (.fieldLink RX4 9 "DivisionHall$Motions" "first" "[I") (by decide +kernel)) (fun _ h9 => h9) rfl dX4_firstOf_10 ?_
    refine lv_iload_n hx hb dX4_firstOf_13 rfl (lv_at hl 1 rfl) ?_
    obtain ⟨hi4, hf⟩ := gin_s hf
    refine va_iald hx hb hK hP 1 0 rfl rfl hi4 dX4_firstOf_14 ?_
    refine lv_goto (tgt := 19) hx hb dX4_firstOf_15 (by decide) ?_
    cases hf
    exact reti X hK hP hD hS dX4_firstOf_19

abbrev wd_X4_drop (cI cZ cR : ClassId) (a_t a_t_first a_t_rank a_t_told a_t_beaten a_t_leads a_t_order : Nat) (t_count : Int32) (t_first_r : Nat → Int32) : va_W := [(a_t, oB 4 [.ref a_t_first, .ref a_t_rank, .ref a_t_told, .ref a_t_beaten, .ref a_t_leads, .ref a_t_order, .int t_count]), (a_t_first, aI cI 10 t_first_r)]
def F_X4_drop (x1 : Int32) (t_first_r : Nat → Int32) : Option ((Nat → Int32)) := ((F_X11_inside x1 (10 : Int32)).bind (fun r1 => (if r1 = 0 then (some t_first_r) else (gin x1 10 (some (upd t_first_r (x1).toNatClampNeg (-1 : Int32)))))))
set_option maxRecDepth 100000 in
theorem in_X4_drop_X4 : ∀ w ∈ wsX40, w ∈ wsX4_drop := by decide +kernel
set_option maxHeartbeats 4000000 in
set_option maxRecDepth 100000 in
theorem c_X4_drop (l : Launch) (D : va_G) (cI cZ cR : ClassId) {a_t a_t_first a_t_rank a_t_told a_t_beaten a_t_leads a_t_order : Nat} {t_count : Int32} {t_first_r : Nat → Int32} {x1 : Int32} {sz : Nat} {out : (Nat → Int32)} (hf : F_X4_drop x1 t_first_r = some out) : CV l yX4_drop wsX4_drop ({ frames := 1, cells := 0, slots := 0, locals := 21 } : Room) D cI cZ cR [.ref a_t, .int x1] (wd_X4_drop cI cZ cR a_t a_t_first a_t_rank a_t_told a_t_beaten a_t_leads a_t_order t_count t_first_r) sz (wd_X4_drop cI cZ cR a_t a_t_first a_t_rank a_t_told a_t_beaten a_t_leads a_t_order t_count out) := by
  refine met_of (Qf := fun A => qv D cI cZ cR A (wd_X4_drop cI cZ cR a_t a_t_first a_t_rank a_t_told a_t_beaten a_t_leads a_t_order t_count out)) RX4 (by decide +kernel) rfl rfl (Nat.le_of_ble_eq_true rfl) ?_
  intro p e s m below meth c A X hK hA hP hD hS ls hl
  have hl : lv_has ls 2 [(0, .ref a_t), (1, .int x1)] := hl
  obtain ⟨hx, hb, hml, hr, hown, hts, hlocks, hN⟩ := id X
  unfold F_X4_drop at hf
  refine lv_iload_n hx hb dX4_drop_0 rfl (lv_at hl 1 rfl) ?_
  refine lv_bipush (v := (10 : Int32)) hx hb dX4_drop_1 (by decide) ?_
  obtain ⟨r1, hr2, hf⟩ := bnd hf
  refine wcalli (D := D) (cI := cI) (cZ := cZ) (cR := cR) (wc := (wd_X11_inside cI cZ cR)) (w' := (wd_X11_inside cI cZ cR)) [] hP hD hS hA rfl rfl rfl (rnSN (As := [.int x1, .int (10 : Int32)]) X [] hK hP hD rfl rfl (c_X11_inside l D cI cZ cR hr2) ⟨va_cnB (host := "DivisionHall") 2 hts ggX4_drop_X11_inside rfl rfl rfl (hN.2.1 ("DivisionHall$Motions", 36, yX11_inside, "DivisionHall") (by decide +kernel)) (hts (.initialized RX11) (by decide +kernel)) (by decide +kernel) ⟨Nat.le_of_ble_eq_true rfl, Nat.le_of_ble_eq_true rfl⟩, hts (.static yX11_inside) (by decide +kernel), trivial⟩ rfl hl.1 rfl (Nat.le_of_ble_eq_true rfl) dX4_drop_3) (fun H locs hP hD hS => ?_)
  have hP : va_P D vwCl (wd_X4_drop cI cZ cR a_t a_t_first a_t_rank a_t_told a_t_beaten a_t_leads a_t_order t_count t_first_r) H := hP
  have hD : va_D A (wd_X4_drop cI cZ cR a_t a_t_first a_t_rank a_t_told a_t_beaten a_t_leads a_t_order t_count t_first_r) := hD
  refine lv_if_eq (tgt := 16) hx hb dX4_drop_6 (by decide) (fun c3 => ?_) (fun c3 => ?_)
  · have hf := ipos c3 hf
    cases hf
    exact retv X hK hP hD hS dX4_drop_16
  · have hf := ineg c3 hf
    refine lv_aload_n hx hb dX4_drop_9 rfl (lv_at hl 0 rfl) ?_
    refine va_get (D := D) (ci := 4) (v := .ref a_t_first) (C := RX4) (T := TX4) (N := 7) hx hb hts in_X4_drop_X4 hown hK hP 0 rfl rfl 0 (by decide) (hts (.fieldLink RX4 9 "DivisionHall$Motions" "first" "[I") (by decide +kernel)) (fun _ h9 => h9) rfl dX4_drop_10 ?_
    refine lv_iload_n hx hb dX4_drop_13 rfl (lv_at hl 1 rfl) ?_
    refine lv_iconst (v := (-1 : Int32)) hx hb dX4_drop_14 (by decide) ?_
    obtain ⟨hi4, hf⟩ := gin_s hf
    refine va_iast hx hb hK hP hD hS 1 0 rfl rfl hi4 dX4_drop_15 (fun H locs hP hD hS => ?_)
    have hP : va_P D vwCl (wd_X4_drop cI cZ cR a_t a_t_first a_t_rank a_t_told a_t_beaten a_t_leads a_t_order t_count (upd t_first_r (x1).toNatClampNeg (-1 : Int32))) H := hP
    have hD : va_D A (wd_X4_drop cI cZ cR a_t a_t_first a_t_rank a_t_told a_t_beaten a_t_leads a_t_order t_count (upd t_first_r (x1).toNatClampNeg (-1 : Int32))) := hD
    cases hf
    exact retv X hK hP hD hS dX4_drop_16

abbrev wd_X4_take (cI cZ cR : ClassId) (a_t a_t_first a_t_rank a_t_told a_t_beaten a_t_leads a_t_order : Nat) (t_count : Int32) (t_first_r : Nat → Int32) (t_rank_r : Nat → Int32) (t_told_r : Nat → Int32) : va_W := [(a_t, oB 4 [.ref a_t_first, .ref a_t_rank, .ref a_t_told, .ref a_t_beaten, .ref a_t_leads, .ref a_t_order, .int t_count]), (a_t_first, aI cI 10 t_first_r), (a_t_rank, aI cI 60 t_rank_r), (a_t_told, aI cI 6 t_told_r)]
def F_X4_take_88 (x1 : Int32) (x4 : Int32) (x5 : Int32) (t_first_r : Nat → Int32) (t_rank_r : Nat → Int32) (t_told_r : Nat → Int32) : Option (Int32 × (Nat → Int32) × (Nat → Int32) × (Nat → Int32)) := (if x4 = 0 then (gin x1 10 (gcp (0 : Int32) (x1 * (6 : Int32)) (6 : Int32) 6 60 (some ((1 : Int32), (upd t_first_r (x1).toNatClampNeg x5), (va_cpy t_told_r t_rank_r ((0 : Int32)).toNatClampNeg ((x1 * (6 : Int32))).toNatClampNeg ((6 : Int32)).toNatClampNeg), t_told_r)))) else (some ((0 : Int32), t_first_r, t_rank_r, t_told_r)))
def F_X4_take_26 (x1 : Int32) : Nat → Int32 → Int32 → Int32 → Int32 → (Nat → Int32) → (Nat → Int32) → (Nat → Int32) → Option (Int32 × (Nat → Int32) × (Nat → Int32) × (Nat → Int32))
  | 0, _, _, _, _, _, _, _ => none
  | n + 1, x3, x4, x5, x6, t_first_r, t_rank_r, t_told_r => (if x6 < 0 then (F_X4_take_88 x1 x4 x5 t_first_r t_rank_r t_told_r) else ((F_X11_inside (x4 - x4 / (10 : Int32) * (10 : Int32)) (6 : Int32)).bind (fun r8 => (if r8 = 0 then (some ((0 : Int32), t_first_r, t_rank_r, t_told_r)) else ((F_X11_has x3 (x4 - x4 / (10 : Int32) * (10 : Int32))).bind (fun r11 => (if r11 = 0 then (gin (x4 - x4 / (10 : Int32) * (10 : Int32)) 6 (F_X4_take_26 x1 n (x3 ||| ((1 : Int32) <<< ((x4 - x4 / (10 : Int32) * (10 : Int32)) &&& 31))) (x4 / (10 : Int32)) (x4 - x4 / (10 : Int32) * (10 : Int32)) (x6 + (-1 : Int32)) t_first_r t_rank_r (upd t_told_r ((x4 - x4 / (10 : Int32) * (10 : Int32))).toNatClampNeg x6))) else (some ((0 : Int32), t_first_r, t_rank_r, t_told_r)))))))))
def F_X4_take (x1 : Int32) (x2 : Int32) (t_first_r : Nat → Int32) (t_rank_r : Nat → Int32) (t_told_r : Nat → Int32) : Option (Int32 × (Nat → Int32) × (Nat → Int32) × (Nat → Int32)) := ((F_X11_inside x1 (10 : Int32)).bind (fun r1 => (if r1 = 0 then (some ((0 : Int32), t_first_r, t_rank_r, t_told_r)) else (if 0 ≤ x2 then (F_X4_take_26 x1 FU (0 : Int32) x2 (-1 : Int32) (5 : Int32) t_first_r t_rank_r t_told_r) else (some ((0 : Int32), t_first_r, t_rank_r, t_told_r))))))
set_option maxRecDepth 100000 in
theorem in_X4_take_X4 : ∀ w ∈ wsX40, w ∈ wsX4_take := by decide +kernel
set_option maxHeartbeats 4000000 in
set_option maxRecDepth 100000 in
theorem w_X4_take_88 {p : Program} {l : Launch} {e : Env} {s : State} {m : MethodId} {args : Array Value} {below : List Frame} {meth : Method} {c : Code} {D : va_G} {cI cZ cR : ClassId} {A : Nat → Prop} {a_t a_t_first a_t_rank a_t_told a_t_beaten a_t_leads a_t_order : Nat} {t_count : Int32} {x1 : Int32} {out : Int32 × (Nat → Int32) × (Nat → Int32) × (Nat → Int32)} (X : cx p s m args meth c cX4_take 7 (some .boolean) RX4 wsX4_take) (hK : va_K D vwCl (ty3 cI cZ cR) s) (hA : ∀ q, s.heap.size ≤ q → A q) : ∀ (x4 : Int32) (x5 : Int32) (t_first_r : Nat → Int32) (t_rank_r : Nat → Int32) (t_told_r : Nat → Int32), F_X4_take_88 x1 x4 x5 t_first_r t_rank_r t_told_r = some out → ∀ (H : Heap) (locs : List Loc), va_P D vwCl (wd_X4_take cI cZ cR a_t a_t_first a_t_rank a_t_told a_t_beaten a_t_leads a_t_order t_count t_first_r t_rank_r t_told_r) H → va_D A (wd_X4_take cI cZ cR a_t a_t_first a_t_rank a_t_told a_t_beaten a_t_leads a_t_order t_count t_first_r t_rank_r t_told_r) → va_S A s.heap H locs → ∀ (ls : Array Slot), lv_has ls 7 [(0, .ref a_t), (1, .int x1), (4, .int x4), (5, .int x5)] → W p l e (headSpec wsX4_take ({ frames := 1, cells := 0, slots := 0, locals := 38 } : Room)).room s m args below meth c H locs 0 0 (MQ below (qi D cI cZ cR A (out.1) (wd_X4_take cI cZ cR a_t a_t_first a_t_rank a_t_told a_t_beaten a_t_leads a_t_order t_count (out.2.1) (out.2.2.1) (out.2.2.2))) args s 0 0 A) (F0 m 88 ls []) := by
  obtain ⟨hx, hb, hml, hr, hown, hts, hlocks, hN⟩ := id X
  intro x4 x5 t_first_r t_rank_r t_told_r hf H locs hP hD hS ls hl
  unfold F_X4_take_88 at hf
  refine lv_iload hx hb dX4_take_88 (lv_at hl 2 rfl) ?_
  refine lv_if_eq (tgt := 95) hx hb dX4_take_90 (by decide) (fun c15 => ?_) (fun c15 => ?_)
  · have hf := ipos c15 hf
    refine lv_aload_n hx hb dX4_take_95 rfl (lv_at hl 0 rfl) ?_
    refine va_get (D := D) (ci := 4) (v := .ref a_t_first) (C := RX4) (T := TX4) (N := 7) hx hb hts in_X4_take_X4 hown hK hP 0 rfl rfl 0 (by decide) (hts (.fieldLink RX4 9 "DivisionHall$Motions" "first" "[I") (by decide +kernel)) (fun _ h9 => h9) rfl dX4_take_96 ?_
    refine lv_iload_n hx hb dX4_take_99 rfl (lv_at hl 1 rfl) ?_
    refine lv_iload hx hb dX4_take_100 (lv_at hl 3 rfl) ?_
    obtain ⟨hi16, hf⟩ := gin_s hf
    refine va_iast hx hb hK hP hD hS 1 0 rfl rfl hi16 dX4_take_102 (fun H locs hP hD hS => ?_)
    have hP : va_P D vwCl (wd_X4_take cI cZ cR a_t a_t_first a_t_rank a_t_told a_t_beaten a_t_leads a_t_order t_count (upd t_first_r (x1).toNatClampNeg x5) t_rank_r t_told_r) H := hP
    have hD : va_D A (wd_X4_take cI cZ cR a_t a_t_first a_t_rank a_t_told a_t_beaten a_t_leads a_t_order t_count (upd t_first_r (x1).toNatClampNeg x5) t_rank_r t_told_r) := hD
    refine lv_aload_n hx hb dX4_take_103 rfl (lv_at hl 0 rfl) ?_
    refine va_get (D := D) (ci := 4) (v := .ref a_t_told) (C := RX4) (T := TX4) (N := 7) hx hb hts in_X4_take_X4 hown hK hP 0 rfl rfl 2 (by decide) (hts (.fieldLink RX4 18 "DivisionHall$Motions" "told" "[I") (by decide +kernel)) (fun _ h9 => h9) rfl dX4_take_104 ?_
    refine lv_iconst (v := (0 : Int32)) hx hb dX4_take_107 (by decide) ?_
    refine lv_aload_n hx hb dX4_take_108 rfl (lv_at hl 0 rfl) ?_
    refine va_get (D := D) (ci := 4) (v := .ref a_t_rank) (C := RX4) (T := TX4) (N := 7) hx hb hts in_X4_take_X4 hown hK hP 0 rfl rfl 1 (by decide) (hts (.fieldLink RX4 15 "DivisionHall$Motions" "rank" "[I") (by decide +kernel)) (fun _ h9 => h9) rfl dX4_take_109 ?_
    refine lv_iload_n hx hb dX4_take_112 rfl (lv_at hl 1 rfl) ?_
    refine lv_bipush (v := (6 : Int32)) hx hb dX4_take_113 (by decide) ?_
    refine lv_imul hx hb dX4_take_115 ?_
    refine lv_bipush (v := (6 : Int32)) hx hb dX4_take_116 (by decide) ?_
    obtain ⟨⟨hk17, hk18, hk19, hk20, hk21⟩, hf⟩ := gcp_s hf
    refine va_copyi (ty := .int) hx hb (hml.trans hl.1.symm) hown (hts (.methodLink RX4 43 arraycopyName) (by decide +kernel)) (hts (.native arraycopyName) (by decide +kernel)) (hts (.static arraycopyName) (by decide +kernel)) (hts (.initialized "java/lang/System") (by decide +kernel)) hK hP hD hS 3 2 0 0 rfl rfl rfl rfl rfl hk17 hk18 hk19 hk20 hk21 (fun _ _ => rfl) (Nat.le_of_ble_eq_true rfl) (Nat.le_of_ble_eq_true rfl) dX4_take_118 (fun H locs hP hD hS => ?_)
    have hP : va_P D vwCl (wd_X4_take cI cZ cR a_t a_t_first a_t_rank a_t_told a_t_beaten a_t_leads a_t_order t_count (upd t_first_r (x1).toNatClampNeg x5) (va_cpy t_told_r t_rank_r ((0 : Int32)).toNatClampNeg ((x1 * (6 : Int32))).toNatClampNeg ((6 : Int32)).toNatClampNeg) t_told_r) H := hP
    have hD : va_D A (wd_X4_take cI cZ cR a_t a_t_first a_t_rank a_t_told a_t_beaten a_t_leads a_t_order t_count (upd t_first_r (x1).toNatClampNeg x5) (va_cpy t_told_r t_rank_r ((0 : Int32)).toNatClampNeg ((x1 * (6 : Int32))).toNatClampNeg ((6 : Int32)).toNatClampNeg) t_told_r) := hD
    refine lv_iconst (v := (1 : Int32)) hx hb dX4_take_121 (by decide) ?_
    cases hf
    exact retz (Or.inr rfl) X hK hP hD hS dX4_take_122
  · have hf := ineg c15 hf
    refine lv_iconst (v := (0 : Int32)) hx hb dX4_take_93 (by decide) ?_
    cases hf
    exact retz (Or.inl rfl) X hK hP hD hS dX4_take_94
set_option maxHeartbeats 4000000 in
set_option maxRecDepth 100000 in
theorem w_X4_take_26 {p : Program} {l : Launch} {e : Env} {s : State} {m : MethodId} {args : Array Value} {below : List Frame} {meth : Method} {c : Code} {D : va_G} {cI cZ cR : ClassId} {A : Nat → Prop} {a_t a_t_first a_t_rank a_t_told a_t_beaten a_t_leads a_t_order : Nat} {t_count : Int32} {x1 : Int32} {out : Int32 × (Nat → Int32) × (Nat → Int32) × (Nat → Int32)} (X : cx p s m args meth c cX4_take 7 (some .boolean) RX4 wsX4_take) (hK : va_K D vwCl (ty3 cI cZ cR) s) (hA : ∀ q, s.heap.size ≤ q → A q) : ∀ (n : Nat) (x3 : Int32) (x4 : Int32) (x5 : Int32) (x6 : Int32) (t_first_r : Nat → Int32) (t_rank_r : Nat → Int32) (t_told_r : Nat → Int32), F_X4_take_26 x1 n x3 x4 x5 x6 t_first_r t_rank_r t_told_r = some out → ∀ (H : Heap) (locs : List Loc), va_P D vwCl (wd_X4_take cI cZ cR a_t a_t_first a_t_rank a_t_told a_t_beaten a_t_leads a_t_order t_count t_first_r t_rank_r t_told_r) H → va_D A (wd_X4_take cI cZ cR a_t a_t_first a_t_rank a_t_told a_t_beaten a_t_leads a_t_order t_count t_first_r t_rank_r t_told_r) → va_S A s.heap H locs → ∀ (ls : Array Slot), lv_has ls 7 [(0, .ref a_t), (1, .int x1), (3, .int x3), (4, .int x4), (5, .int x5), (6, .int x6)] → W p l e (headSpec wsX4_take ({ frames := 1, cells := 0, slots := 0, locals := 38 } : Room)).room s m args below meth c H locs 0 0 (MQ below (qi D cI cZ cR A (out.1) (wd_X4_take cI cZ cR a_t a_t_first a_t_rank a_t_told a_t_beaten a_t_leads a_t_order t_count (out.2.1) (out.2.2.1) (out.2.2.2))) args s 0 0 A) (F0 m 26 ls []) := by
  obtain ⟨hx, hb, hml, hr, hown, hts, hlocks, hN⟩ := id X
  intro n
  induction n with
  | zero =>
    intro x3 x4 x5 x6 t_first_r t_rank_r t_told_r hf
    cases (show (none : Option (Int32 × (Nat → Int32) × (Nat → Int32) × (Nat → Int32))) = some out from hf)
  | succ n ih =>
    intro x3 x4 x5 x6 t_first_r t_rank_r t_told_r hf H locs hP hD hS ls hl
    rw [F_X4_take_26] at hf
    refine lv_iload hx hb dX4_take_26 (lv_at hl 5 rfl) ?_
    refine lv_if_lt (tgt := 88) hx hb dX4_take_28 (by decide) (fun c5 => ?_) (fun c5 => ?_)
    · have hf := ipos c5 hf
      exact w_X4_take_88 X hK hA x4 x5 t_first_r t_rank_r t_told_r hf _ _ hP hD hS _ (lv_sub hl [0, 1, 3, 4] rfl)
    · have hf := ineg c5 hf
      refine lv_iload hx hb dX4_take_31 (lv_at hl 3 rfl) ?_
      refine lv_bipush (v := (10 : Int32)) hx hb dX4_take_33 (by decide) ?_
      refine lv_irem hx hb dX4_take_35 (by decide) ?_
      refine lv_istore (lv' := [(5, .int (x4 - x4 / (10 : Int32) * (10 : Int32))), (0, .ref a_t), (1, .int x1), (3, .int x3), (4, .int x4), (6, .int x6)]) hx hb dX4_take_36 hl (by decide) rfl (fun ls hl => ?_)
      refine lv_iload hx hb dX4_take_38 (lv_at hl 4 rfl) ?_
      refine lv_bipush (v := (10 : Int32)) hx hb dX4_take_40 (by decide) ?_
      refine lv_idiv hx hb dX4_take_42 (by decide) ?_
      refine lv_istore (lv' := [(4, .int (x4 / (10 : Int32))), (5, .int (x4 - x4 / (10 : Int32) * (10 : Int32))), (0, .ref a_t), (1, .int x1), (3, .int x3), (6, .int x6)]) hx hb dX4_take_43 hl (by decide) rfl (fun ls hl => ?_)
      refine lv_iload hx hb dX4_take_45 (lv_at hl 1 rfl) ?_
      refine lv_bipush (v := (6 : Int32)) hx hb dX4_take_47 (by decide) ?_
      obtain ⟨r8, hr9, hf⟩ := bnd hf
      refine wcalli (D := D) (cI := cI) (cZ := cZ) (cR := cR) (wc := (wd_X11_inside cI cZ cR)) (w' := (wd_X11_inside cI cZ cR)) [] hP hD hS hA rfl rfl rfl (rnSN (As := [.int (x4 - x4 / (10 : Int32) * (10 : Int32)), .int (6 : Int32)]) X [] hK hP hD rfl rfl (c_X11_inside l D cI cZ cR hr9) ⟨va_cnB (host := "DivisionHall") 2 hts ggX4_take_X11_inside rfl rfl rfl (hN.2.1 ("DivisionHall$Motions", 36, yX11_inside, "DivisionHall") (by decide +kernel)) (hts (.initialized RX11) (by decide +kernel)) (by decide +kernel) ⟨Nat.le_of_ble_eq_true rfl, Nat.le_of_ble_eq_true rfl⟩, hts (.static yX11_inside) (by decide +kernel), trivial⟩ rfl hl.1 rfl (Nat.le_of_ble_eq_true rfl) dX4_take_49) (fun H locs hP hD hS => ?_)
      have hP : va_P D vwCl (wd_X4_take cI cZ cR a_t a_t_first a_t_rank a_t_told a_t_beaten a_t_leads a_t_order t_count t_first_r t_rank_r t_told_r) H := hP
      have hD : va_D A (wd_X4_take cI cZ cR a_t a_t_first a_t_rank a_t_told a_t_beaten a_t_leads a_t_order t_count t_first_r t_rank_r t_told_r) := hD
      refine lv_if_eq (tgt := 64) hx hb dX4_take_52 (by decide) (fun c10 => ?_) (fun c10 => ?_)
      · have hf := ipos c10 hf
        refine lv_iconst (v := (0 : Int32)) hx hb dX4_take_64 (by decide) ?_
        cases hf
        exact retz (Or.inl rfl) X hK hP hD hS dX4_take_65
      · have hf := ineg c10 hf
        refine lv_iload_n hx hb dX4_take_55 rfl (lv_at hl 4 rfl) ?_
        refine lv_iload hx hb dX4_take_56 (lv_at hl 1 rfl) ?_
        obtain ⟨r11, hr12, hf⟩ := bnd hf
        refine wcalli (D := D) (cI := cI) (cZ := cZ) (cR := cR) (wc := (wd_X11_has cI cZ cR)) (w' := (wd_X11_has cI cZ cR)) [] hP hD hS hA rfl rfl rfl (rnSN (As := [.int x3, .int (x4 - x4 / (10 : Int32) * (10 : Int32))]) X [] hK hP hD rfl rfl (c_X11_has l D cI cZ cR hr12) ⟨va_cnB (host := "DivisionHall") 2 hts ggX4_take_X11_has rfl rfl rfl (hN.2.1 ("DivisionHall$Motions", 40, yX11_has, "DivisionHall") (by decide +kernel)) (hts (.initialized RX11) (by decide +kernel)) (by decide +kernel) ⟨Nat.le_of_ble_eq_true rfl, Nat.le_of_ble_eq_true rfl⟩, hts (.static yX11_has) (by decide +kernel), trivial⟩ rfl hl.1 rfl (Nat.le_of_ble_eq_true rfl) dX4_take_58) (fun H locs hP hD hS => ?_)
        have hP : va_P D vwCl (wd_X4_take cI cZ cR a_t a_t_first a_t_rank a_t_told a_t_beaten a_t_leads a_t_order t_count t_first_r t_rank_r t_told_r) H := hP
        have hD : va_D A (wd_X4_take cI cZ cR a_t a_t_first a_t_rank a_t_told a_t_beaten a_t_leads a_t_order t_count t_first_r t_rank_r t_told_r) := hD
        refine lv_if_eq (tgt := 66) hx hb dX4_take_61 (by decide) (fun c13 => ?_) (fun c13 => ?_)
        · have hf := ipos c13 hf
          refine lv_iload_n hx hb dX4_take_66 rfl (lv_at hl 4 rfl) ?_
          refine lv_iconst (v := (1 : Int32)) hx hb dX4_take_67 (by decide) ?_
          refine lv_iload hx hb dX4_take_68 (lv_at hl 1 rfl) ?_
          refine lv_ishl hx hb dX4_take_70 ?_
          refine lv_ior hx hb dX4_take_71 ?_
          refine lv_istore_n (lv' := [(3, .int (x3 ||| ((1 : Int32) <<< ((x4 - x4 / (10 : Int32) * (10 : Int32)) &&& 31)))), (4, .int (x4 / (10 : Int32))), (5, .int (x4 - x4 / (10 : Int32) * (10 : Int32))), (0, .ref a_t), (1, .int x1), (6, .int x6)]) hx hb dX4_take_72 rfl hl (by decide) rfl (fun ls hl => ?_)
          refine lv_aload_n hx hb dX4_take_73 rfl (lv_at hl 3 rfl) ?_
          refine va_get (D := D) (ci := 4) (v := .ref a_t_told) (C := RX4) (T := TX4) (N := 7) hx hb hts in_X4_take_X4 hown hK hP 0 rfl rfl 2 (by decide) (hts (.fieldLink RX4 18 "DivisionHall$Motions" "told" "[I") (by decide +kernel)) (fun _ h9 => h9) rfl dX4_take_74 ?_
          refine lv_iload hx hb dX4_take_77 (lv_at hl 2 rfl) ?_
          refine lv_iload hx hb dX4_take_79 (lv_at hl 5 rfl) ?_
          obtain ⟨hi14, hf⟩ := gin_s hf
          refine va_iast hx hb hK hP hD hS 3 0 rfl rfl hi14 dX4_take_81 (fun H locs hP hD hS => ?_)
          have hP : va_P D vwCl (wd_X4_take cI cZ cR a_t a_t_first a_t_rank a_t_told a_t_beaten a_t_leads a_t_order t_count t_first_r t_rank_r (upd t_told_r ((x4 - x4 / (10 : Int32) * (10 : Int32))).toNatClampNeg x6)) H := hP
          have hD : va_D A (wd_X4_take cI cZ cR a_t a_t_first a_t_rank a_t_told a_t_beaten a_t_leads a_t_order t_count t_first_r t_rank_r (upd t_told_r ((x4 - x4 / (10 : Int32) * (10 : Int32))).toNatClampNeg x6)) := hD
          refine lv_iinc (v := (x6 + (-1 : Int32))) (lv' := [(6, .int (x6 + (-1 : Int32))), (3, .int (x3 ||| ((1 : Int32) <<< ((x4 - x4 / (10 : Int32) * (10 : Int32)) &&& 31)))), (4, .int (x4 / (10 : Int32))), (5, .int (x4 - x4 / (10 : Int32) * (10 : Int32))), (0, .ref a_t), (1, .int x1)]) hx hb dX4_take_82 hl (k := 5) rfl rfl (by decide) rfl (fun ls hl => ?_)
          refine lv_goto (tgt := 26) hx hb dX4_take_85 (by decide) ?_
          exact ih (x3 ||| ((1 : Int32) <<< ((x4 - x4 / (10 : Int32) * (10 : Int32)) &&& 31))) (x4 / (10 : Int32)) (x4 - x4 / (10 : Int32) * (10 : Int32)) (x6 + (-1 : Int32)) t_first_r t_rank_r (upd t_told_r ((x4 - x4 / (10 : Int32) * (10 : Int32))).toNatClampNeg x6) hf _ _ hP hD hS _ (lv_sub hl [4, 5, 1, 2, 3, 0] rfl)
        · have hf := ineg c13 hf
          refine lv_iconst (v := (0 : Int32)) hx hb dX4_take_64 (by decide) ?_
          cases hf
          exact retz (Or.inl rfl) X hK hP hD hS dX4_take_65
set_option maxHeartbeats 4000000 in
set_option maxRecDepth 100000 in
theorem c_X4_take (l : Launch) (D : va_G) (cI cZ cR : ClassId) {a_t a_t_first a_t_rank a_t_told a_t_beaten a_t_leads a_t_order : Nat} {t_count : Int32} {t_first_r : Nat → Int32} {t_rank_r : Nat → Int32} {t_told_r : Nat → Int32} {x1 : Int32} {x2 : Int32} {sz : Nat} {out : Int32 × (Nat → Int32) × (Nat → Int32) × (Nat → Int32)} (hf : F_X4_take x1 x2 t_first_r t_rank_r t_told_r = some out) : CI l yX4_take wsX4_take ({ frames := 1, cells := 0, slots := 0, locals := 38 } : Room) D cI cZ cR [.ref a_t, .int x1, .int x2] (wd_X4_take cI cZ cR a_t a_t_first a_t_rank a_t_told a_t_beaten a_t_leads a_t_order t_count t_first_r t_rank_r t_told_r) sz (out.1) (wd_X4_take cI cZ cR a_t a_t_first a_t_rank a_t_told a_t_beaten a_t_leads a_t_order t_count (out.2.1) (out.2.2.1) (out.2.2.2)) := by
  refine met_of (Qf := fun A => qi D cI cZ cR A (out.1) (wd_X4_take cI cZ cR a_t a_t_first a_t_rank a_t_told a_t_beaten a_t_leads a_t_order t_count (out.2.1) (out.2.2.1) (out.2.2.2))) RX4 (by decide +kernel) rfl rfl (Nat.le_of_ble_eq_true rfl) ?_
  intro p e s m below meth c A X hK hA hP hD hS ls hl
  have hl : lv_has ls 7 [(0, .ref a_t), (1, .int x1), (2, .int x2)] := hl
  obtain ⟨hx, hb, hml, hr, hown, hts, hlocks, hN⟩ := id X
  unfold F_X4_take at hf
  refine lv_iload_n hx hb dX4_take_0 rfl (lv_at hl 1 rfl) ?_
  refine lv_bipush (v := (10 : Int32)) hx hb dX4_take_1 (by decide) ?_
  obtain ⟨r1, hr2, hf⟩ := bnd hf
  refine wcalli (D := D) (cI := cI) (cZ := cZ) (cR := cR) (wc := (wd_X11_inside cI cZ cR)) (w' := (wd_X11_inside cI cZ cR)) [] hP hD hS hA rfl rfl rfl (rnSN (As := [.int x1, .int (10 : Int32)]) X [] hK hP hD rfl rfl (c_X11_inside l D cI cZ cR hr2) ⟨va_cnB (host := "DivisionHall") 2 hts ggX4_take_X11_inside rfl rfl rfl (hN.2.1 ("DivisionHall$Motions", 36, yX11_inside, "DivisionHall") (by decide +kernel)) (hts (.initialized RX11) (by decide +kernel)) (by decide +kernel) ⟨Nat.le_of_ble_eq_true rfl, Nat.le_of_ble_eq_true rfl⟩, hts (.static yX11_inside) (by decide +kernel), trivial⟩ rfl hl.1 rfl (Nat.le_of_ble_eq_true rfl) dX4_take_3) (fun H locs hP hD hS => ?_)
  have hP : va_P D vwCl (wd_X4_take cI cZ cR a_t a_t_first a_t_rank a_t_told a_t_beaten a_t_leads a_t_order t_count t_first_r t_rank_r t_told_r) H := hP
  have hD : va_D A (wd_X4_take cI cZ cR a_t a_t_first a_t_rank a_t_told a_t_beaten a_t_leads a_t_order t_count t_first_r t_rank_r t_told_r) := hD
  refine lv_if_eq (tgt := 13) hx hb dX4_take_6 (by decide) (fun c3 => ?_) (fun c3 => ?_)
  · have hf := ipos c3 hf
    refine lv_iconst (v := (0 : Int32)) hx hb dX4_take_13 (by decide) ?_
    cases hf
    exact retz (Or.inl rfl) X hK hP hD hS dX4_take_14
  · have hf := ineg c3 hf
    refine lv_iload_n hx hb dX4_take_9 rfl (lv_at hl 2 rfl) ?_
    refine lv_if_ge (tgt := 15) hx hb dX4_take_10 (by decide) (fun c4 => ?_) (fun c4 => ?_)
    · have hf := ipos c4 hf
      refine lv_iconst (v := (0 : Int32)) hx hb dX4_take_15 (by decide) ?_
      refine lv_istore_n (lv' := [(3, .int (0 : Int32)), (0, .ref a_t), (1, .int x1), (2, .int x2)]) hx hb dX4_take_16 rfl hl (by decide) rfl (fun ls hl => ?_)
      refine lv_iload_n hx hb dX4_take_17 rfl (lv_at hl 3 rfl) ?_
      refine lv_istore (lv' := [(4, .int x2), (3, .int (0 : Int32)), (0, .ref a_t), (1, .int x1), (2, .int x2)]) hx hb dX4_take_18 hl (by decide) rfl (fun ls hl => ?_)
      refine lv_iconst (v := (-1 : Int32)) hx hb dX4_take_20 (by decide) ?_
      refine lv_istore (lv' := [(5, .int (-1 : Int32)), (4, .int x2), (3, .int (0 : Int32)), (0, .ref a_t), (1, .int x1), (2, .int x2)]) hx hb dX4_take_21 hl (by decide) rfl (fun ls hl => ?_)
      refine lv_iconst (v := (5 : Int32)) hx hb dX4_take_23 (by decide) ?_
      refine lv_istore (lv' := [(6, .int (5 : Int32)), (5, .int (-1 : Int32)), (4, .int x2), (3, .int (0 : Int32)), (0, .ref a_t), (1, .int x1), (2, .int x2)]) hx hb dX4_take_24 hl (by decide) rfl (fun ls hl => ?_)
      exact w_X4_take_26 X hK hA _ (0 : Int32) x2 (-1 : Int32) (5 : Int32) t_first_r t_rank_r t_told_r hf _ _ hP hD hS _ (lv_sub hl [4, 5, 3, 2, 1, 0] rfl)
    · have hf := ineg c4 hf
      refine lv_iconst (v := (0 : Int32)) hx hb dX4_take_13 (by decide) ?_
      cases hf
      exact retz (Or.inl rfl) X hK hP hD hS dX4_take_14

abbrev wd_X4_ahead (cI cZ cR : ClassId) (a_t a_t_first a_t_rank a_t_told a_t_beaten a_t_leads a_t_order : Nat) (t_count : Int32) (t_first_r : Nat → Int32) (t_rank_r : Nat → Int32) : va_W := [(a_t, oB 4 [.ref a_t_first, .ref a_t_rank, .ref a_t_told, .ref a_t_beaten, .ref a_t_leads, .ref a_t_order, .int t_count]), (a_t_first, aI cI 10 t_first_r), (a_t_rank, aI cI 60 t_rank_r)]
def F_X4_ahead_23 (x1 : Int32) (x2 : Int32) (t_first_r : Nat → Int32) (t_rank_r : Nat → Int32) : Nat → Int32 → Int32 → Option (Int32)
  | 0, _, _ => none
  | n + 1, x3, x4 => (if (10 : Int32) ≤ x4 then (some x3) else (gin x4 10 (if (t_first_r (x4).toNatClampNeg) = (-1 : Int32) then (F_X4_ahead_23 x1 x2 t_first_r t_rank_r n x3 (x4 + (1 : Int32))) else (gin ((x4 * (6 : Int32)) + x1) 60 (gin ((x4 * (6 : Int32)) + x2) 60 (if (t_rank_r (((x4 * (6 : Int32)) + x2)).toNatClampNeg) ≤ (t_rank_r (((x4 * (6 : Int32)) + x1)).toNatClampNeg) then (F_X4_ahead_23 x1 x2 t_first_r t_rank_r n x3 (x4 + (1 : Int32))) else (F_X4_ahead_23 x1 x2 t_first_r t_rank_r n (x3 ||| ((1 : Int32) <<< (x4 &&& 31))) (x4 + (1 : Int32)))))))))
def F_X4_ahead (x1 : Int32) (x2 : Int32) (t_first_r : Nat → Int32) (t_rank_r : Nat → Int32) : Option (Int32) := ((F_X11_inside x1 (6 : Int32)).bind (fun r1 => (if r1 = 0 then (some (0 : Int32)) else ((F_X11_inside x2 (6 : Int32)).bind (fun r4 => (if r4 = 0 then (some (0 : Int32)) else (F_X4_ahead_23 x1 x2 t_first_r t_rank_r FU (0 : Int32) (0 : Int32))))))))
set_option maxRecDepth 100000 in
theorem in_X4_ahead_X4 : ∀ w ∈ wsX40, w ∈ wsX4_ahead := by decide +kernel
set_option maxHeartbeats 4000000 in
set_option maxRecDepth 100000 in
theorem w_X4_ahead_23 {p : Program} {l : Launch} {e : Env} {s : State} {m : MethodId} {args : Array Value} {below : List Frame} {meth : Method} {c : Code} {D : va_G} {cI cZ cR : ClassId} {A : Nat → Prop} {a_t a_t_first a_t_rank a_t_told a_t_beaten a_t_leads a_t_order : Nat} {t_count : Int32} {t_first_r : Nat → Int32} {t_rank_r : Nat → Int32} {x1 : Int32} {x2 : Int32} {out : Int32} (X : cx p s m args meth c cX4_ahead 5 (some .int) RX4 wsX4_ahead) (hK : va_K D vwCl (ty3 cI cZ cR) s) (hA : ∀ q, s.heap.size ≤ q → A q) : ∀ (n : Nat) (x3 : Int32) (x4 : Int32), F_X4_ahead_23 x1 x2 t_first_r t_rank_r n x3 x4 = some out → ∀ (H : Heap) (locs : List Loc), va_P D vwCl (wd_X4_ahead cI cZ cR a_t a_t_first a_t_rank a_t_told a_t_beaten a_t_leads a_t_order t_count t_first_r t_rank_r) H → va_D A (wd_X4_ahead cI cZ cR a_t a_t_first a_t_rank a_t_told a_t_beaten a_t_leads a_t_order t_count t_first_r t_rank_r) → va_S A s.heap H locs → ∀ (ls : Array Slot), lv_has ls 5 [(0, .ref a_t), (1, .int x1), (2, .int x2), (3, .int x3), (4, .int x4)] → W p l e (headSpec wsX4_ahead ({ frames := 1, cells := 0, slots := 0, locals := 21 } : Room)).room s m args below meth c H locs 0 0 (MQ below (qi D cI cZ cR A (out) (wd_X4_ahead cI cZ cR a_t a_t_first a_t_rank a_t_told a_t_beaten a_t_leads a_t_order t_count t_first_r t_rank_r)) args s 0 0 A) (F0 m 23 ls []) := by
  obtain ⟨hx, hb, hml, hr, hown, hts, hlocks, hN⟩ := id X
  intro n
  induction n with
  | zero =>
    intro x3 x4 hf
    cases (show (none : Option (Int32)) = some out from hf)
  | succ n ih =>
    intro x3 x4 hf H locs hP hD hS ls hl
    rw [F_X4_ahead_23] at hf
    refine lv_iload hx hb dX4_ahead_23 (lv_at hl 4 rfl) ?_
    refine lv_bipush (v := (10 : Int32)) hx hb dX4_ahead_25 (by decide) ?_
    refine lv_icmp_ge (tgt := 81) hx hb dX4_ahead_27 (by decide) (fun c7 => ?_) (fun c7 => ?_)
    · have hf := ipos c7 hf
      refine lv_iload_n hx hb dX4_ahead_81 rfl (lv_at hl 3 rfl) ?_
      cases hf
      exact reti X hK hP hD hS dX4_ahead_82
    · have hf := ineg c7 hf
      refine lv_aload_n hx hb dX4_ahead_30 rfl (lv_at hl 0 rfl) ?_
      refine va_get (D := D) (ci := 4) (v := .ref a_t_first) (C := RX4) (T := TX4) (N := 7) hx hb hts in_X4_ahead_X4 hown hK hP 0 rfl rfl 0 (by decide) (hts (.fieldLink RX4 9 "DivisionHall$Motions" "first" "[I") (by decide +kernel)) (fun _ h9 => h9) rfl dX4_ahead_31 ?_
      refine lv_iload hx hb dX4_ahead_34 (lv_at hl 4 rfl) ?_
      obtain ⟨hi8, hf⟩ := gin_s hf
      refine va_iald hx hb hK hP 1 0 rfl rfl hi8 dX4_ahead_36 ?_
      refine lv_iconst (v := (-1 : Int32)) hx hb dX4_ahead_37 (by decide) ?_
      refine lv_icmp_eq (tgt := 75) hx hb dX4_ahead_38 (by decide) (fun c9 => ?_) (fun c9 => ?_)
      · have hf := ipos c9 hf
        refine lv_iinc (v := (x4 + (1 : Int32))) (lv' := [(4, .int (x4 + (1 : Int32))), (0, .ref a_t), (1, .int x1), (2, .int x2), (3, .int x3)]) hx hb dX4_ahead_75 hl (k := 4) rfl rfl (by decide) rfl (fun ls hl => ?_)
        refine lv_goto (tgt := 23) hx hb dX4_ahead_78 (by decide) ?_
        exact ih x3 (x4 + (1 : Int32)) hf _ _ hP hD hS _ (lv_sub hl [1, 2, 3, 4, 0] rfl)
      · have hf := ineg c9 hf
        refine lv_aload_n hx hb dX4_ahead_41 rfl (lv_at hl 0 rfl) ?_
        refine va_get (D := D) (ci := 4) (v := .ref a_t_rank) (C := RX4) (T := TX4) (N := 7) hx hb hts in_X4_ahead_X4 hown hK hP 0 rfl rfl 1 (by decide) (hts (.fieldLink RX4 15 "DivisionHall$Motions" "rank" "[I") (by decide +kernel)) (fun _ h9 => h9) rfl dX4_ahead_42 ?_
        refine lv_iload hx hb dX4_ahead_45 (lv_at hl 4 rfl) ?_
        refine lv_bipush (v := (6 : Int32)) hx hb dX4_ahead_47 (by decide) ?_
        refine lv_imul hx hb dX4_ahead_49 ?_
        refine lv_iload_n hx hb dX4_ahead_50 rfl (lv_at hl 1 rfl) ?_
        refine lv_iadd hx hb dX4_ahead_51 ?_
        obtain ⟨hi10, hf⟩ := gin_s hf
        refine va_iald hx hb hK hP 2 0 rfl rfl hi10 dX4_ahead_52 ?_
        refine lv_aload_n hx hb dX4_ahead_53 rfl (lv_at hl 0 rfl) ?_
        refine va_get (D := D) (ci := 4) (v := .ref a_t_rank) (C := RX4) (T := TX4) (N := 7) hx hb hts in_X4_ahead_X4 hown hK hP 0 rfl rfl 1 (by decide) (hts (.fieldLink RX4 15 "DivisionHall$Motions" "rank" "[I") (by decide +kernel)) (fun _ h9 => h9) rfl dX4_ahead_54 ?_
        refine lv_iload hx hb dX4_ahead_57 (lv_at hl 4 rfl) ?_
        refine lv_bipush (v := (6 : Int32)) hx hb dX4_ahead_59 (by decide) ?_
        refine lv_imul hx hb dX4_ahead_61 ?_
        refine lv_iload_n hx hb dX4_ahead_62 rfl (lv_at hl 2 rfl) ?_
        refine lv_iadd hx hb dX4_ahead_63 ?_
        obtain ⟨hi11, hf⟩ := gin_s hf
        refine va_iald hx hb hK hP 2 0 rfl rfl hi11 dX4_ahead_64 ?_
        refine lv_icmp_ge (tgt := 75) hx hb dX4_ahead_65 (by decide) (fun c12 => ?_) (fun c12 => ?_)
        · have hf := ipos c12 hf
          refine lv_iinc (v := (x4 + (1 : Int32))) (lv' := [(4, .int (x4 + (1 : Int32))), (0, .ref a_t), (1, .int x1), (2, .int x2), (3, .int x3)]) hx hb dX4_ahead_75 hl (k := 4) rfl rfl (by decide) rfl (fun ls hl => ?_)
          refine lv_goto (tgt := 23) hx hb dX4_ahead_78 (by decide) ?_
          exact ih x3 (x4 + (1 : Int32)) hf _ _ hP hD hS _ (lv_sub hl [1, 2, 3, 4, 0] rfl)
        · have hf := ineg c12 hf
          refine lv_iload_n hx hb dX4_ahead_68 rfl (lv_at hl 3 rfl) ?_
          refine lv_iconst (v := (1 : Int32)) hx hb dX4_ahead_69 (by decide) ?_
          refine lv_iload hx hb dX4_ahead_70 (lv_at hl 4 rfl) ?_
          refine lv_ishl hx hb dX4_ahead_72 ?_
          refine lv_ior hx hb dX4_ahead_73 ?_
          refine lv_istore_n (lv' := [(3, .int (x3 ||| ((1 : Int32) <<< (x4 &&& 31)))), (0, .ref a_t), (1, .int x1), (2, .int x2), (4, .int x4)]) hx hb dX4_ahead_74 rfl hl (by decide) rfl (fun ls hl => ?_)
          refine lv_iinc (v := (x4 + (1 : Int32))) (lv' := [(4, .int (x4 + (1 : Int32))), (3, .int (x3 ||| ((1 : Int32) <<< (x4 &&& 31)))), (0, .ref a_t), (1, .int x1), (2, .int x2)]) hx hb dX4_ahead_75 hl (k := 4) rfl rfl (by decide) rfl (fun ls hl => ?_)
          refine lv_goto (tgt := 23) hx hb dX4_ahead_78 (by decide) ?_
          exact ih (x3 ||| ((1 : Int32) <<< (x4 &&& 31))) (x4 + (1 : Int32)) hf _ _ hP hD hS _ (lv_sub hl [2, 3, 4, 1, 0] rfl)
set_option maxHeartbeats 4000000 in
set_option maxRecDepth 100000 in
theorem c_X4_ahead (l : Launch) (D : va_G) (cI cZ cR : ClassId) {a_t a_t_first a_t_rank a_t_told a_t_beaten a_t_leads a_t_order : Nat} {t_count : Int32} {t_first_r : Nat → Int32} {t_rank_r : Nat → Int32} {x1 : Int32} {x2 : Int32} {sz : Nat} {out : Int32} (hf : F_X4_ahead x1 x2 t_first_r t_rank_r = some out) : CI l yX4_ahead wsX4_ahead ({ frames := 1, cells := 0, slots := 0, locals := 21 } : Room) D cI cZ cR [.ref a_t, .int x1, .int x2] (wd_X4_ahead cI cZ cR a_t a_t_first a_t_rank a_t_told a_t_beaten a_t_leads a_t_order t_count t_first_r t_rank_r) sz (out) (wd_X4_ahead cI cZ cR a_t a_t_first a_t_rank a_t_told a_t_beaten a_t_leads a_t_order t_count t_first_r t_rank_r) := by
  refine met_of (Qf := fun A => qi D cI cZ cR A (out) (wd_X4_ahead cI cZ cR a_t a_t_first a_t_rank a_t_told a_t_beaten a_t_leads a_t_order t_count t_first_r t_rank_r)) RX4 (by decide +kernel) rfl rfl (Nat.le_of_ble_eq_true rfl) ?_
  intro p e s m below meth c A X hK hA hP hD hS ls hl
  have hl : lv_has ls 5 [(0, .ref a_t), (1, .int x1), (2, .int x2)] := hl
  obtain ⟨hx, hb, hml, hr, hown, hts, hlocks, hN⟩ := id X
  unfold F_X4_ahead at hf
  refine lv_iconst (v := (0 : Int32)) hx hb dX4_ahead_0 (by decide) ?_
  refine lv_istore_n (lv' := [(3, .int (0 : Int32)), (0, .ref a_t), (1, .int x1), (2, .int x2)]) hx hb dX4_ahead_1 rfl hl (by decide) rfl (fun ls hl => ?_)
  refine lv_iload_n hx hb dX4_ahead_2 rfl (lv_at hl 2 rfl) ?_
  refine lv_bipush (v := (6 : Int32)) hx hb dX4_ahead_3 (by decide) ?_
  obtain ⟨r1, hr2, hf⟩ := bnd hf
  refine wcalli (D := D) (cI := cI) (cZ := cZ) (cR := cR) (wc := (wd_X11_inside cI cZ cR)) (w' := (wd_X11_inside cI cZ cR)) [] hP hD hS hA rfl rfl rfl (rnSN (As := [.int x1, .int (6 : Int32)]) X [] hK hP hD rfl rfl (c_X11_inside l D cI cZ cR hr2) ⟨va_cnB (host := "DivisionHall") 2 hts ggX4_ahead_X11_inside rfl rfl rfl (hN.2.1 ("DivisionHall$Motions", 36, yX11_inside, "DivisionHall") (by decide +kernel)) (hts (.initialized RX11) (by decide +kernel)) (by decide +kernel) ⟨Nat.le_of_ble_eq_true rfl, Nat.le_of_ble_eq_true rfl⟩, hts (.static yX11_inside) (by decide +kernel), trivial⟩ rfl hl.1 rfl (Nat.le_of_ble_eq_true rfl) dX4_ahead_5) (fun H locs hP hD hS => ?_)
  have hP : va_P D vwCl (wd_X4_ahead cI cZ cR a_t a_t_first a_t_rank a_t_told a_t_beaten a_t_leads a_t_order t_count t_first_r t_rank_r) H := hP
  have hD : va_D A (wd_X4_ahead cI cZ cR a_t a_t_first a_t_rank a_t_told a_t_beaten a_t_leads a_t_order t_count t_first_r t_rank_r) := hD
  refine lv_if_eq (tgt := 81) hx hb dX4_ahead_8 (by decide) (fun c3 => ?_) (fun c3 => ?_)
  · have hf := ipos c3 hf
    refine lv_iload_n hx hb dX4_ahead_81 rfl (lv_at hl 0 rfl) ?_
    cases hf
    exact reti X hK hP hD hS dX4_ahead_82
  · have hf := ineg c3 hf
    refine lv_iload_n hx hb dX4_ahead_11 rfl (lv_at hl 3 rfl) ?_
    refine lv_bipush (v := (6 : Int32)) hx hb dX4_ahead_12 (by decide) ?_
    obtain ⟨r4, hr5, hf⟩ := bnd hf
    refine wcalli (D := D) (cI := cI) (cZ := cZ) (cR := cR) (wc := (wd_X11_inside cI cZ cR)) (w' := (wd_X11_inside cI cZ cR)) [] hP hD hS hA rfl rfl rfl (rnSN (As := [.int x2, .int (6 : Int32)]) X [] hK hP hD rfl rfl (c_X11_inside l D cI cZ cR hr5) ⟨va_cnB (host := "DivisionHall") 2 hts ggX4_ahead_X11_inside rfl rfl rfl (hN.2.1 ("DivisionHall$Motions", 36, yX11_inside, "DivisionHall") (by decide +kernel)) (hts (.initialized RX11) (by decide +kernel)) (by decide +kernel) ⟨Nat.le_of_ble_eq_true rfl, Nat.le_of_ble_eq_true rfl⟩, hts (.static yX11_inside) (by decide +kernel), trivial⟩ rfl hl.1 rfl (Nat.le_of_ble_eq_true rfl) dX4_ahead_14) (fun H locs hP hD hS => ?_)
    have hP : va_P D vwCl (wd_X4_ahead cI cZ cR a_t a_t_first a_t_rank a_t_told a_t_beaten a_t_leads a_t_order t_count t_first_r t_rank_r) H := hP
    have hD : va_D A (wd_X4_ahead cI cZ cR a_t a_t_first a_t_rank a_t_told a_t_beaten a_t_leads a_t_order t_count t_first_r t_rank_r) := hD
    refine lv_if_eq (tgt := 81) hx hb dX4_ahead_17 (by decide) (fun c6 => ?_) (fun c6 => ?_)
    · have hf := ipos c6 hf
      refine lv_iload_n hx hb dX4_ahead_81 rfl (lv_at hl 0 rfl) ?_
      cases hf
      exact reti X hK hP hD hS dX4_ahead_82
    · have hf := ineg c6 hf
      refine lv_iconst (v := (0 : Int32)) hx hb dX4_ahead_20 (by decide) ?_
      refine lv_istore (lv' := [(4, .int (0 : Int32)), (3, .int (0 : Int32)), (0, .ref a_t), (1, .int x1), (2, .int x2)]) hx hb dX4_ahead_21 hl (by decide) rfl (fun ls hl => ?_)
      exact w_X4_ahead_23 X hK hA _ (0 : Int32) (0 : Int32) hf _ _ hP hD hS _ (lv_sub hl [2, 3, 4, 1, 0] rfl)

abbrev wd_X4_compare (cI cZ cR : ClassId) (a_p1 a_p1_code a_p1_stack a_p1_table a_p2 a_p2_weight a_p2_membersOf a_t a_t_first a_t_rank a_t_told a_t_beaten a_t_leads a_t_order a_p1_table_bits a_p1_table_trade : Nat) (p1_codes p2_in p2_all t_count p1_table_in p1_table_fresh p1_table_tradeSought : Int32) (p1_code_r : Nat → Int32) (p1_stack_r : Nat → Int32) (p2_membersOf_r : Nat → Int32) (p2_weight_r : Nat → Int32) (t_beaten_r : Nat → Int32) (t_first_r : Nat → Int32) (t_rank_r : Nat → Int32) (p1_table_bits_r : Nat → Int32) : va_W := [(a_p1, oB 6 [.ref a_p1_code, .ref a_p1_stack, .ref a_p1_table, .int p1_codes]), (a_p2, oB 7 [.ref a_p2_weight, .ref a_p2_membersOf, .int p2_in, .int p2_all]), (a_t, oB 4 [.ref a_t_first, .ref a_t_rank, .ref a_t_told, .ref a_t_beaten, .ref a_t_leads, .ref a_t_order, .int t_count]), (a_p1_code, aI cI 400 p1_code_r), (a_p1_stack, aI cI 40 p1_stack_r), (a_p1_table, oB 8 [.ref a_p1_table_bits, .ref a_p1_table_trade, .int p1_table_in, .int p1_table_fresh, .int p1_table_tradeSought]), (a_p2_membersOf, aI cI 6 p2_membersOf_r), (a_p2_weight, aI cI 10 p2_weight_r), (a_t_beaten, aI cI 6 t_beaten_r), (a_t_first, aI cI 10 t_first_r), (a_t_rank, aI cI 60 t_rank_r), (a_p1_table_bits, aI cI 32 p1_table_bits_r)]
def F_X4_compare_18 (p1_codes : Int32) (p1_code_r : Nat → Int32) (p1_table_fresh : Int32) (p1_table_bits_r : Nat → Int32) (p2_all : Int32) (p2_in : Int32) (p2_membersOf_r : Nat → Int32) (p2_weight_r : Nat → Int32) (t_first_r : Nat → Int32) (t_rank_r : Nat → Int32) (rec2 : Int32 → (Nat → Int32) → (Nat → Int32) → Option ((Nat → Int32) × (Nat → Int32))) : Nat → Int32 → Int32 → (Nat → Int32) → (Nat → Int32) → Option ((Nat → Int32) × (Nat → Int32))
  | 0, _, _, _, _ => none
  | n + 1, x3, x4, p1_stack_r, t_beaten_r => (if (6 : Int32) ≤ x4 then (rec2 (x3 + (1 : Int32)) p1_stack_r t_beaten_r) else (if x3 = x4 then (F_X4_compare_18 p1_codes p1_code_r p1_table_fresh p1_table_bits_r p2_all p2_in p2_membersOf_r p2_weight_r t_first_r t_rank_r rec2 n x3 (x4 + (1 : Int32)) p1_stack_r t_beaten_r) else ((F_X4_ahead x3 x4 t_first_r t_rank_r).bind (fun r5 => ((F_X6_passes (r5 &&& p2_in) p2_all p2_in p2_membersOf_r p2_weight_r p1_codes p1_code_r p1_stack_r p1_table_fresh p1_table_bits_r).bind (fun r7 => (if (r7.1) = 0 then (F_X4_compare_18 p1_codes p1_code_r p1_table_fresh p1_table_bits_r p2_all p2_in p2_membersOf_r p2_weight_r t_first_r t_rank_r rec2 n x3 (x4 + (1 : Int32)) (r7.2) t_beaten_r) else (gin x3 6 (gin x3 6 (F_X4_compare_18 p1_codes p1_code_r p1_table_fresh p1_table_bits_r p2_all p2_in p2_membersOf_r p2_weight_r t_first_r t_rank_r rec2 n x3 (x4 + (1 : Int32)) (r7.2) (upd t_beaten_r (x3).toNatClampNeg ((t_beaten_r (x3).toNatClampNeg) ||| ((1 : Int32) <<< (x4 &&& 31))))))))))))))
def F_X4_compare_2 (p1_codes : Int32) (p1_code_r : Nat → Int32) (p1_table_fresh : Int32) (p1_table_bits_r : Nat → Int32) (p2_all : Int32) (p2_in : Int32) (p2_membersOf_r : Nat → Int32) (p2_weight_r : Nat → Int32) (t_first_r : Nat → Int32) (t_rank_r : Nat → Int32) : Nat → Int32 → (Nat → Int32) → (Nat → Int32) → Option ((Nat → Int32) × (Nat → Int32))
  | 0, _, _, _ => none
  | n + 1, x3, p1_stack_r, t_beaten_r => (if (6 : Int32) ≤ x3 then (some (p1_stack_r, t_beaten_r)) else (gin x3 6 (F_X4_compare_18 p1_codes p1_code_r p1_table_fresh p1_table_bits_r p2_all p2_in p2_membersOf_r p2_weight_r t_first_r t_rank_r (F_X4_compare_2 p1_codes p1_code_r p1_table_fresh p1_table_bits_r p2_all p2_in p2_membersOf_r p2_weight_r t_first_r t_rank_r n) FU x3 (0 : Int32) p1_stack_r (upd t_beaten_r (x3).toNatClampNeg (0 : Int32)))))
def F_X4_compare (p1_codes : Int32) (p1_code_r : Nat → Int32) (p1_stack_r : Nat → Int32) (p1_table_fresh : Int32) (p1_table_bits_r : Nat → Int32) (p2_all : Int32) (p2_in : Int32) (p2_membersOf_r : Nat → Int32) (p2_weight_r : Nat → Int32) (t_beaten_r : Nat → Int32) (t_first_r : Nat → Int32) (t_rank_r : Nat → Int32) : Option ((Nat → Int32) × (Nat → Int32)) := (F_X4_compare_2 p1_codes p1_code_r p1_table_fresh p1_table_bits_r p2_all p2_in p2_membersOf_r p2_weight_r t_first_r t_rank_r FU (0 : Int32) p1_stack_r t_beaten_r)
set_option maxRecDepth 100000 in
theorem in_X4_compare_X4 : ∀ w ∈ wsX40, w ∈ wsX4_compare := by decide +kernel
set_option maxRecDepth 100000 in
theorem in_X4_compare_X7 : ∀ w ∈ wsX70, w ∈ wsX4_compare := by decide +kernel
set_option maxHeartbeats 4000000 in
set_option maxRecDepth 100000 in
theorem w_X4_compare_18 {p : Program} {l : Launch} {e : Env} {s : State} {m : MethodId} {args : Array Value} {below : List Frame} {meth : Method} {c : Code} {D : va_G} {cI cZ cR : ClassId} {A : Nat → Prop} {a_p1 a_p1_code a_p1_stack a_p1_table a_p2 a_p2_weight a_p2_membersOf a_t a_t_first a_t_rank a_t_told a_t_beaten a_t_leads a_t_order a_p1_table_bits a_p1_table_trade : Nat} {p1_codes : Int32} {p2_in : Int32} {p2_all : Int32} {t_count : Int32} {p1_table_in : Int32} {p1_table_fresh : Int32} {p1_table_tradeSought : Int32} {p1_code_r : Nat → Int32} {p2_membersOf_r : Nat → Int32} {p2_weight_r : Nat → Int32} {t_first_r : Nat → Int32} {t_rank_r : Nat → Int32} {p1_table_bits_r : Nat → Int32} {rec2 : Int32 → (Nat → Int32) → (Nat → Int32) → Option ((Nat → Int32) × (Nat → Int32))} {out : (Nat → Int32) × (Nat → Int32)} (X : cx p s m args meth c cX4_compare 5 none RX4 wsX4_compare) (hK : va_K D vwCl (ty3 cI cZ cR) s) (hA : ∀ q, s.heap.size ≤ q → A q) (hrec2 : ∀ (x3 : Int32) (p1_stack_r : Nat → Int32) (t_beaten_r : Nat → Int32), rec2 x3 p1_stack_r t_beaten_r = some out → ∀ (H : Heap) (locs : List Loc), va_P D vwCl (wd_X4_compare cI cZ cR a_p1 a_p1_code a_p1_stack a_p1_table a_p2 a_p2_weight a_p2_membersOf a_t a_t_first a_t_rank a_t_told a_t_beaten a_t_leads a_t_order a_p1_table_bits a_p1_table_trade p1_codes p2_in p2_all t_count p1_table_in p1_table_fresh p1_table_tradeSought p1_code_r p1_stack_r p2_membersOf_r p2_weight_r t_beaten_r t_first_r t_rank_r p1_table_bits_r) H → va_D A (wd_X4_compare cI cZ cR a_p1 a_p1_code a_p1_stack a_p1_table a_p2 a_p2_weight a_p2_membersOf a_t a_t_first a_t_rank a_t_told a_t_beaten a_t_leads a_t_order a_p1_table_bits a_p1_table_trade p1_codes p2_in p2_all t_count p1_table_in p1_table_fresh p1_table_tradeSought p1_code_r p1_stack_r p2_membersOf_r p2_weight_r t_beaten_r t_first_r t_rank_r p1_table_bits_r) → va_S A s.heap H locs → ∀ (ls : Array Slot), lv_has ls 5 [(0, .ref a_t), (1, .ref a_p1), (2, .ref a_p2), (3, .int x3)] → W p l e (headSpec wsX4_compare ({ frames := 4, cells := 0, slots := 0, locals := 93 } : Room)).room s m args below meth c H locs 0 0 (MQ below (qv D cI cZ cR A (wd_X4_compare cI cZ cR a_p1 a_p1_code a_p1_stack a_p1_table a_p2 a_p2_weight a_p2_membersOf a_t a_t_first a_t_rank a_t_told a_t_beaten a_t_leads a_t_order a_p1_table_bits a_p1_table_trade p1_codes p2_in p2_all t_count p1_table_in p1_table_fresh p1_table_tradeSought p1_code_r (out.1) p2_membersOf_r p2_weight_r (out.2) t_first_r t_rank_r p1_table_bits_r)) args s 0 0 A) (F0 m 2 ls [])) : ∀ (n : Nat) (x3 : Int32) (x4 : Int32) (p1_stack_r : Nat → Int32) (t_beaten_r : Nat → Int32), F_X4_compare_18 p1_codes p1_code_r p1_table_fresh p1_table_bits_r p2_all p2_in p2_membersOf_r p2_weight_r t_first_r t_rank_r rec2 n x3 x4 p1_stack_r t_beaten_r = some out → ∀ (H : Heap) (locs : List Loc), va_P D vwCl (wd_X4_compare cI cZ cR a_p1 a_p1_code a_p1_stack a_p1_table a_p2 a_p2_weight a_p2_membersOf a_t a_t_first a_t_rank a_t_told a_t_beaten a_t_leads a_t_order a_p1_table_bits a_p1_table_trade p1_codes p2_in p2_all t_count p1_table_in p1_table_fresh p1_table_tradeSought p1_code_r p1_stack_r p2_membersOf_r p2_weight_r t_beaten_r t_first_r t_rank_r p1_table_bits_r) H → va_D A (wd_X4_compare cI cZ cR a_p1 a_p1_code a_p1_stack a_p1_table a_p2 a_p2_weight a_p2_membersOf a_t a_t_first a_t_rank a_t_told a_t_beaten a_t_leads a_t_order a_p1_table_bits a_p1_table_trade p1_codes p2_in p2_all t_count p1_table_in p1_table_fresh p1_table_tradeSought p1_code_r p1_stack_r p2_membersOf_r p2_weight_r t_beaten_r t_first_r t_rank_r p1_table_bits_r) → va_S A s.heap H locs → ∀ (ls : Array Slot), lv_has ls 5 [(0, .ref a_t), (1, .ref a_p1), (2, .ref a_p2), (3, .int x3), (4, .int x4)] → W p l e (headSpec wsX4_compare ({ frames := 4, cells := 0, slots := 0, locals := 93 } : Room)).room s m args below meth c H locs 0 0 (MQ below (qv D cI cZ cR A (wd_X4_compare cI cZ cR a_p1 a_p1_code a_p1_stack a_p1_table a_p2 a_p2_weight a_p2_membersOf a_t a_t_first a_t_rank a_t_told a_t_beaten a_t_leads a_t_order a_p1_table_bits a_p1_table_trade p1_codes p2_in p2_all t_count p1_table_in p1_table_fresh p1_table_tradeSought p1_code_r (out.1) p2_membersOf_r p2_weight_r (out.2) t_first_r t_rank_r p1_table_bits_r)) args s 0 0 A) (F0 m 18 ls []) := by
  obtain ⟨hx, hb, hml, hr, hown, hts, hlocks, hN⟩ := id X
  intro n
  induction n with
  | zero =>
    intro x3 x4 p1_stack_r t_beaten_r hf
    cases (show (none : Option ((Nat → Int32) × (Nat → Int32))) = some out from hf)
  | succ n ih =>
    intro x3 x4 p1_stack_r t_beaten_r hf H locs hP hD hS ls hl
    rw [F_X4_compare_18] at hf
    refine lv_iload hx hb dX4_compare_18 (lv_at hl 4 rfl) ?_
    refine lv_bipush (v := (6 : Int32)) hx hb dX4_compare_20 (by decide) ?_
    refine lv_icmp_ge (tgt := 70) hx hb dX4_compare_22 (by decide) (fun c3 => ?_) (fun c3 => ?_)
    · have hf := ipos c3 hf
      refine lv_iinc (v := (x3 + (1 : Int32))) (lv' := [(3, .int (x3 + (1 : Int32))), (0, .ref a_t), (1, .ref a_p1), (2, .ref a_p2), (4, .int x4)]) hx hb dX4_compare_70 hl (k := 3) rfl rfl (by decide) rfl (fun ls hl => ?_)
      refine lv_goto (tgt := 2) hx hb dX4_compare_73 (by decide) ?_
      exact hrec2 (x3 + (1 : Int32)) p1_stack_r t_beaten_r hf _ _ hP hD hS _ (lv_sub hl [1, 2, 3, 0] rfl)
    · have hf := ineg c3 hf
      refine lv_iload_n hx hb dX4_compare_25 rfl (lv_at hl 3 rfl) ?_
      refine lv_iload hx hb dX4_compare_26 (lv_at hl 4 rfl) ?_
      refine lv_icmp_eq (tgt := 64) hx hb dX4_compare_28 (by decide) (fun c4 => ?_) (fun c4 => ?_)
      · have hf := ipos c4 hf
        refine lv_iinc (v := (x4 + (1 : Int32))) (lv' := [(4, .int (x4 + (1 : Int32))), (0, .ref a_t), (1, .ref a_p1), (2, .ref a_p2), (3, .int x3)]) hx hb dX4_compare_64 hl (k := 4) rfl rfl (by decide) rfl (fun ls hl => ?_)
        refine lv_goto (tgt := 18) hx hb dX4_compare_67 (by decide) ?_
        exact ih x3 (x4 + (1 : Int32)) p1_stack_r t_beaten_r hf _ _ hP hD hS _ (lv_sub hl [1, 2, 3, 4, 0] rfl)
      · have hf := ineg c4 hf
        refine lv_aload_n hx hb dX4_compare_31 rfl (lv_at hl 1 rfl) ?_
        refine lv_aload_n hx hb dX4_compare_32 rfl (lv_at hl 0 rfl) ?_
        refine lv_iload_n hx hb dX4_compare_33 rfl (lv_at hl 3 rfl) ?_
        refine lv_iload hx hb dX4_compare_34 (lv_at hl 4 rfl) ?_
        obtain ⟨r5, hr6, hf⟩ := bnd hf
        refine wcalli (D := D) (cI := cI) (cZ := cZ) (cR := cR) (wc := (wd_X4_ahead cI cZ cR a_t a_t_first a_t_rank a_t_told a_t_beaten a_t_leads a_t_order t_count t_first_r t_rank_r)) (w' := (wd_X4_ahead cI cZ cR a_t a_t_first a_t_rank a_t_told a_t_beaten a_t_leads a_t_order t_count t_first_r t_rank_r)) [2, 9, 10] hP hD hS hA rfl rfl rfl (rnV (As := [.int x3, .int x4]) (ci := 4) (q0 := 2) X [2, 9, 10] hK hP hD rfl rfl rfl rfl (c_X4_ahead l D cI cZ cR hr6) (cwV 2 hts gX4_compare_X4_ahead rfl rfl rfl (by decide +kernel) ⟨Nat.le_of_ble_eq_true rfl, Nat.le_of_ble_eq_true rfl⟩) rfl hl.1 rfl (Nat.le_of_ble_eq_true rfl) dX4_compare_36) (fun H locs hP hD hS => ?_)
        have hP : va_P D vwCl (wd_X4_compare cI cZ cR a_p1 a_p1_code a_p1_stack a_p1_table a_p2 a_p2_weight a_p2_membersOf a_t a_t_first a_t_rank a_t_told a_t_beaten a_t_leads a_t_order a_p1_table_bits a_p1_table_trade p1_codes p2_in p2_all t_count p1_table_in p1_table_fresh p1_table_tradeSought p1_code_r p1_stack_r p2_membersOf_r p2_weight_r t_beaten_r t_first_r t_rank_r p1_table_bits_r) H := hP
        have hD : va_D A (wd_X4_compare cI cZ cR a_p1 a_p1_code a_p1_stack a_p1_table a_p2 a_p2_weight a_p2_membersOf a_t a_t_first a_t_rank a_t_told a_t_beaten a_t_leads a_t_order a_p1_table_bits a_p1_table_trade p1_codes p2_in p2_all t_count p1_table_in p1_table_fresh p1_table_tradeSought p1_code_r p1_stack_r p2_membersOf_r p2_weight_r t_beaten_r t_first_r t_rank_r p1_table_bits_r) := hD
        refine lv_aload_n hx hb dX4_compare_39 rfl (lv_at hl 2 rfl) ?_
        refine va_getN (D := D) (ci := 7) (v := .int p2_in) (C := RX7) (T := TX7) (N := 4) hx hb hts in_X4_compare_X7 hown hK hP 1 rfl rfl 2 (by decide) (va_Nw.use rfl (hN.1 ("DivisionHall$Motions", 53, "DivisionHall$Seats", "in", "I", "DivisionHall") (by decide +kernel))) (fun _ h9 => h9) rfl dX4_compare_40 ?_
        refine lv_iand hx hb dX4_compare_43 ?_
        refine lv_aload_n hx hb dX4_compare_44 rfl (lv_at hl 2 rfl) ?_
        obtain ⟨r7, hr8, hf⟩ := bnd hf
        refine wcalli (D := D) (cI := cI) (cZ := cZ) (cR := cR) (wc := (wd_X6_passes cI cZ cR a_p2 a_p2_weight a_p2_membersOf a_p1 a_p1_code a_p1_stack a_p1_table a_p1_table_bits a_p1_table_trade p2_in p2_all p1_codes p1_table_in p1_table_fresh p1_table_tradeSought p2_membersOf_r p2_weight_r p1_code_r p1_stack_r p1_table_bits_r)) (w' := (wd_X6_passes cI cZ cR a_p2 a_p2_weight a_p2_membersOf a_p1 a_p1_code a_p1_stack a_p1_table a_p1_table_bits a_p1_table_trade p2_in p2_all p1_codes p1_table_in p1_table_fresh p1_table_tradeSought p2_membersOf_r p2_weight_r p1_code_r (r7.2) p1_table_bits_r)) [1, 0, 6, 7, 3, 4, 5, 11] hP hD hS hA rfl rfl rfl (rnV (As := [.int (r5 &&& p2_in), .ref a_p2]) (ci := 6) (q0 := 0) X [1, 0, 6, 7, 3, 4, 5, 11] hK hP hD rfl rfl rfl rfl (c_X6_passes l D cI cZ cR hr8) (cwV 2 hts gX4_compare_X6_passes rfl rfl rfl (by decide +kernel) ⟨Nat.le_of_ble_eq_true rfl, Nat.le_of_ble_eq_true rfl⟩) rfl hl.1 rfl (Nat.le_of_ble_eq_true rfl) dX4_compare_45) (fun H locs hP hD hS => ?_)
        have hP : va_P D vwCl (wd_X4_compare cI cZ cR a_p1 a_p1_code a_p1_stack a_p1_table a_p2 a_p2_weight a_p2_membersOf a_t a_t_first a_t_rank a_t_told a_t_beaten a_t_leads a_t_order a_p1_table_bits a_p1_table_trade p1_codes p2_in p2_all t_count p1_table_in p1_table_fresh p1_table_tradeSought p1_code_r (r7.2) p2_membersOf_r p2_weight_r t_beaten_r t_first_r t_rank_r p1_table_bits_r) H := hP
        have hD : va_D A (wd_X4_compare cI cZ cR a_p1 a_p1_code a_p1_stack a_p1_table a_p2 a_p2_weight a_p2_membersOf a_t a_t_first a_t_rank a_t_told a_t_beaten a_t_leads a_t_order a_p1_table_bits a_p1_table_trade p1_codes p2_in p2_all t_count p1_table_in p1_table_fresh p1_table_tradeSought p1_code_r (r7.2) p2_membersOf_r p2_weight_r t_beaten_r t_first_r t_rank_r p1_table_bits_r) := hD
        refine lv_if_eq (tgt := 64) hx hb dX4_compare_48 (by decide) (fun c9 => ?_) (fun c9 => ?_)
        · have hf := ipos c9 hf
          refine lv_iinc (v := (x4 + (1 : Int32))) (lv' := [(4, .int (x4 + (1 : Int32))), (0, .ref a_t), (1, .ref a_p1), (2, .ref a_p2), (3, .int x3)]) hx hb dX4_compare_64 hl (k := 4) rfl rfl (by decide) rfl (fun ls hl => ?_)
          refine lv_goto (tgt := 18) hx hb dX4_compare_67 (by decide) ?_
          exact ih x3 (x4 + (1 : Int32)) (r7.2) t_beaten_r hf _ _ hP hD hS _ (lv_sub hl [1, 2, 3, 4, 0] rfl)
        · have hf := ineg c9 hf
          refine lv_aload_n hx hb dX4_compare_51 rfl (lv_at hl 0 rfl) ?_
          refine va_get (D := D) (ci := 4) (v := .ref a_t_beaten) (C := RX4) (T := TX4) (N := 7) hx hb hts in_X4_compare_X4 hown hK hP 2 rfl rfl 3 (by decide) (hts (.fieldLink RX4 21 "DivisionHall$Motions" "beaten" "[I") (by decide +kernel)) (fun _ h9 => h9) rfl dX4_compare_52 ?_
          refine lv_iload_n hx hb dX4_compare_55 rfl (lv_at hl 3 rfl) ?_
          refine lv_dup2_11 hx hb dX4_compare_56 rfl rfl ?_
          obtain ⟨hi10, hf⟩ := gin_s hf
          refine va_iald hx hb hK hP 8 0 rfl rfl hi10 dX4_compare_57 ?_
          refine lv_iconst (v := (1 : Int32)) hx hb dX4_compare_58 (by decide) ?_
          refine lv_iload hx hb dX4_compare_59 (lv_at hl 4 rfl) ?_
          refine lv_ishl hx hb dX4_compare_61 ?_
          refine lv_ior hx hb dX4_compare_62 ?_
          obtain ⟨hi11, hf⟩ := gin_s hf
          refine va_iast hx hb hK hP hD hS 8 0 rfl rfl hi11 dX4_compare_63 (fun H locs hP hD hS => ?_)
          have hP : va_P D vwCl (wd_X4_compare cI cZ cR a_p1 a_p1_code a_p1_stack a_p1_table a_p2 a_p2_weight a_p2_membersOf a_t a_t_first a_t_rank a_t_told a_t_beaten a_t_leads a_t_order a_p1_table_bits a_p1_table_trade p1_codes p2_in p2_all t_count p1_table_in p1_table_fresh p1_table_tradeSought p1_code_r (r7.2) p2_membersOf_r p2_weight_r (upd t_beaten_r (x3).toNatClampNeg ((t_beaten_r (x3).toNatClampNeg) ||| ((1 : Int32) <<< (x4 &&& 31)))) t_first_r t_rank_r p1_table_bits_r) H := hP
          have hD : va_D A (wd_X4_compare cI cZ cR a_p1 a_p1_code a_p1_stack a_p1_table a_p2 a_p2_weight a_p2_membersOf a_t a_t_first a_t_rank a_t_told a_t_beaten a_t_leads a_t_order a_p1_table_bits a_p1_table_trade p1_codes p2_in p2_all t_count p1_table_in p1_table_fresh p1_table_tradeSought p1_code_r (r7.2) p2_membersOf_r p2_weight_r (upd t_beaten_r (x3).toNatClampNeg ((t_beaten_r (x3).toNatClampNeg) ||| ((1 : Int32) <<< (x4 &&& 31)))) t_first_r t_rank_r p1_table_bits_r) := hD
          refine lv_iinc (v := (x4 + (1 : Int32))) (lv' := [(4, .int (x4 + (1 : Int32))), (0, .ref a_t), (1, .ref a_p1), (2, .ref a_p2), (3, .int x3)]) hx hb dX4_compare_64 hl (k := 4) rfl rfl (by decide) rfl (fun ls hl => ?_)
          refine lv_goto (tgt := 18) hx hb dX4_compare_67 (by decide) ?_
          exact ih x3 (x4 + (1 : Int32)) (r7.2) (upd t_beaten_r (x3).toNatClampNeg ((t_beaten_r (x3).toNatClampNeg) ||| ((1 : Int32) <<< (x4 &&& 31)))) hf _ _ hP hD hS _ (lv_sub hl [1, 2, 3, 4, 0] rfl)
set_option maxHeartbeats 4000000 in
set_option maxRecDepth 100000 in
theorem w_X4_compare_2 {p : Program} {l : Launch} {e : Env} {s : State} {m : MethodId} {args : Array Value} {below : List Frame} {meth : Method} {c : Code} {D : va_G} {cI cZ cR : ClassId} {A : Nat → Prop} {a_p1 a_p1_code a_p1_stack a_p1_table a_p2 a_p2_weight a_p2_membersOf a_t a_t_first a_t_rank a_t_told a_t_beaten a_t_leads a_t_order a_p1_table_bits a_p1_table_trade : Nat} {p1_codes : Int32} {p2_in : Int32} {p2_all : Int32} {t_count : Int32} {p1_table_in : Int32} {p1_table_fresh : Int32} {p1_table_tradeSought : Int32} {p1_code_r : Nat → Int32} {p2_membersOf_r : Nat → Int32} {p2_weight_r : Nat → Int32} {t_first_r : Nat → Int32} {t_rank_r : Nat → Int32} {p1_table_bits_r : Nat → Int32} {out : (Nat → Int32) × (Nat → Int32)} (X : cx p s m args meth c cX4_compare 5 none RX4 wsX4_compare) (hK : va_K D vwCl (ty3 cI cZ cR) s) (hA : ∀ q, s.heap.size ≤ q → A q) : ∀ (n : Nat) (x3 : Int32) (p1_stack_r : Nat → Int32) (t_beaten_r : Nat → Int32), F_X4_compare_2 p1_codes p1_code_r p1_table_fresh p1_table_bits_r p2_all p2_in p2_membersOf_r p2_weight_r t_first_r t_rank_r n x3 p1_stack_r t_beaten_r = some out → ∀ (H : Heap) (locs : List Loc), va_P D vwCl (wd_X4_compare cI cZ cR a_p1 a_p1_code a_p1_stack a_p1_table a_p2 a_p2_weight a_p2_membersOf a_t a_t_first a_t_rank a_t_told a_t_beaten a_t_leads a_t_order a_p1_table_bits a_p1_table_trade p1_codes p2_in p2_all t_count p1_table_in p1_table_fresh p1_table_tradeSought p1_code_r p1_stack_r p2_membersOf_r p2_weight_r t_beaten_r t_first_r t_rank_r p1_table_bits_r) H → va_D A (wd_X4_compare cI cZ cR a_p1 a_p1_code a_p1_stack a_p1_table a_p2 a_p2_weight a_p2_membersOf a_t a_t_first a_t_rank a_t_told a_t_beaten a_t_leads a_t_order a_p1_table_bits a_p1_table_trade p1_codes p2_in p2_all t_count p1_table_in p1_table_fresh p1_table_tradeSought p1_code_r p1_stack_r p2_membersOf_r p2_weight_r t_beaten_r t_first_r t_rank_r p1_table_bits_r) → va_S A s.heap H locs → ∀ (ls : Array Slot), lv_has ls 5 [(0, .ref a_t), (1, .ref a_p1), (2, .ref a_p2), (3, .int x3)] → W p l e (headSpec wsX4_compare ({ frames := 4, cells := 0, slots := 0, locals := 93 } : Room)).room s m args below meth c H locs 0 0 (MQ below (qv D cI cZ cR A (wd_X4_compare cI cZ cR a_p1 a_p1_code a_p1_stack a_p1_table a_p2 a_p2_weight a_p2_membersOf a_t a_t_first a_t_rank a_t_told a_t_beaten a_t_leads a_t_order a_p1_table_bits a_p1_table_trade p1_codes p2_in p2_all t_count p1_table_in p1_table_fresh p1_table_tradeSought p1_code_r (out.1) p2_membersOf_r p2_weight_r (out.2) t_first_r t_rank_r p1_table_bits_r)) args s 0 0 A) (F0 m 2 ls []) := by
  obtain ⟨hx, hb, hml, hr, hown, hts, hlocks, hN⟩ := id X
  intro n
  induction n with
  | zero =>
    intro x3 p1_stack_r t_beaten_r hf
    cases (show (none : Option ((Nat → Int32) × (Nat → Int32))) = some out from hf)
  | succ n ih =>
    intro x3 p1_stack_r t_beaten_r hf H locs hP hD hS ls hl
    rw [F_X4_compare_2] at hf
    refine lv_iload_n hx hb dX4_compare_2 rfl (lv_at hl 3 rfl) ?_
    refine lv_bipush (v := (6 : Int32)) hx hb dX4_compare_3 (by decide) ?_
    refine lv_icmp_ge (tgt := 76) hx hb dX4_compare_5 (by decide) (fun c1 => ?_) (fun c1 => ?_)
    · have hf := ipos c1 hf
      cases hf
      exact retv X hK hP hD hS dX4_compare_76
    · have hf := ineg c1 hf
      refine lv_aload_n hx hb dX4_compare_8 rfl (lv_at hl 0 rfl) ?_
      refine va_get (D := D) (ci := 4) (v := .ref a_t_beaten) (C := RX4) (T := TX4) (N := 7) hx hb hts in_X4_compare_X4 hown hK hP 2 rfl rfl 3 (by decide) (hts (.fieldLink RX4 21 "DivisionHall$Motions" "beaten" "[I") (by decide +kernel)) (fun _ h9 => h9) rfl dX4_compare_9 ?_
      refine lv_iload_n hx hb dX4_compare_12 rfl (lv_at hl 3 rfl) ?_
      refine lv_iconst (v := (0 : Int32)) hx hb dX4_compare_13 (by decide) ?_
      obtain ⟨hi2, hf⟩ := gin_s hf
      refine va_iast hx hb hK hP hD hS 8 0 rfl rfl hi2 dX4_compare_14 (fun H locs hP hD hS => ?_)
      have hP : va_P D vwCl (wd_X4_compare cI cZ cR a_p1 a_p1_code a_p1_stack a_p1_table a_p2 a_p2_weight a_p2_membersOf a_t a_t_first a_t_rank a_t_told a_t_beaten a_t_leads a_t_order a_p1_table_bits a_p1_table_trade p1_codes p2_in p2_all t_count p1_table_in p1_table_fresh p1_table_tradeSought p1_code_r p1_stack_r p2_membersOf_r p2_weight_r (upd t_beaten_r (x3).toNatClampNeg (0 : Int32)) t_first_r t_rank_r p1_table_bits_r) H := hP
      have hD : va_D A (wd_X4_compare cI cZ cR a_p1 a_p1_code a_p1_stack a_p1_table a_p2 a_p2_weight a_p2_membersOf a_t a_t_first a_t_rank a_t_told a_t_beaten a_t_leads a_t_order a_p1_table_bits a_p1_table_trade p1_codes p2_in p2_all t_count p1_table_in p1_table_fresh p1_table_tradeSought p1_code_r p1_stack_r p2_membersOf_r p2_weight_r (upd t_beaten_r (x3).toNatClampNeg (0 : Int32)) t_first_r t_rank_r p1_table_bits_r) := hD
      refine lv_iconst (v := (0 : Int32)) hx hb dX4_compare_15 (by decide) ?_
      refine lv_istore (lv' := [(4, .int (0 : Int32)), (0, .ref a_t), (1, .ref a_p1), (2, .ref a_p2), (3, .int x3)]) hx hb dX4_compare_16 hl (by decide) rfl (fun ls hl => ?_)
      exact w_X4_compare_18 X hK hA ih _ x3 (0 : Int32) p1_stack_r (upd t_beaten_r (x3).toNatClampNeg (0 : Int32)) hf _ _ hP hD hS _ (lv_sub hl [1, 2, 3, 4, 0] rfl)
set_option maxHeartbeats 4000000 in
set_option maxRecDepth 100000 in
theorem c_X4_compare (l : Launch) (D : va_G) (cI cZ cR : ClassId) {a_p1 a_p1_code a_p1_stack a_p1_table a_p2 a_p2_weight a_p2_membersOf a_t a_t_first a_t_rank a_t_told a_t_beaten a_t_leads a_t_order a_p1_table_bits a_p1_table_trade : Nat} {p1_codes : Int32} {p2_in : Int32} {p2_all : Int32} {t_count : Int32} {p1_table_in : Int32} {p1_table_fresh : Int32} {p1_table_tradeSought : Int32} {p1_code_r : Nat → Int32} {p1_stack_r : Nat → Int32} {p2_membersOf_r : Nat → Int32} {p2_weight_r : Nat → Int32} {t_beaten_r : Nat → Int32} {t_first_r : Nat → Int32} {t_rank_r : Nat → Int32} {p1_table_bits_r : Nat → Int32} {sz : Nat} {out : (Nat → Int32) × (Nat → Int32)} (hf : F_X4_compare p1_codes p1_code_r p1_stack_r p1_table_fresh p1_table_bits_r p2_all p2_in p2_membersOf_r p2_weight_r t_beaten_r t_first_r t_rank_r = some out) : CV l yX4_compare wsX4_compare ({ frames := 4, cells := 0, slots := 0, locals := 93 } : Room) D cI cZ cR [.ref a_t, .ref a_p1, .ref a_p2] (wd_X4_compare cI cZ cR a_p1 a_p1_code a_p1_stack a_p1_table a_p2 a_p2_weight a_p2_membersOf a_t a_t_first a_t_rank a_t_told a_t_beaten a_t_leads a_t_order a_p1_table_bits a_p1_table_trade p1_codes p2_in p2_all t_count p1_table_in p1_table_fresh p1_table_tradeSought p1_code_r p1_stack_r p2_membersOf_r p2_weight_r t_beaten_r t_first_r t_rank_r p1_table_bits_r) sz (wd_X4_compare cI cZ cR a_p1 a_p1_code a_p1_stack a_p1_table a_p2 a_p2_weight a_p2_membersOf a_t a_t_first a_t_rank a_t_told a_t_beaten a_t_leads a_t_order a_p1_table_bits a_p1_table_trade p1_codes p2_in p2_all t_count p1_table_in p1_table_fresh p1_table_tradeSought p1_code_r (out.1) p2_membersOf_r p2_weight_r (out.2) t_first_r t_rank_r p1_table_bits_r) := by
  refine met_of (Qf := fun A => qv D cI cZ cR A (wd_X4_compare cI cZ cR a_p1 a_p1_code a_p1_stack a_p1_table a_p2 a_p2_weight a_p2_membersOf a_t a_t_first a_t_rank a_t_told a_t_beaten a_t_leads a_t_order a_p1_table_bits a_p1_table_trade p1_codes p2_in p2_all t_count p1_table_in p1_table_fresh p1_table_tradeSought p1_code_r (out.1) p2_membersOf_r p2_weight_r (out.2) t_first_r t_rank_r p1_table_bits_r)) RX4 (by decide +kernel) rfl rfl (Nat.le_of_ble_eq_true rfl) ?_
  intro p e s m below meth c A X hK hA hP hD hS ls hl
  have hl : lv_has ls 5 [(0, .ref a_t), (1, .ref a_p1), (2, .ref a_p2)] := hl
  obtain ⟨hx, hb, hml, hr, hown, hts, hlocks, hN⟩ := id X
  unfold F_X4_compare at hf
  refine lv_iconst (v := (0 : Int32)) hx hb dX4_compare_0 (by decide) ?_
  refine lv_istore_n (lv' := [(3, .int (0 : Int32)), (0, .ref a_t), (1, .ref a_p1), (2, .ref a_p2)]) hx hb dX4_compare_1 rfl hl (by decide) rfl (fun ls hl => ?_)
  exact w_X4_compare_2 X hK hA _ (0 : Int32) p1_stack_r t_beaten_r hf _ _ hP hD hS _ (lv_sub hl [1, 2, 3, 0] rfl)

abbrev wd_X4_beats (cI cZ cR : ClassId) (a_t a_t_first a_t_rank a_t_told a_t_beaten a_t_leads a_t_order : Nat) (t_count : Int32) (t_beaten_r : Nat → Int32) : va_W := [(a_t, oB 4 [.ref a_t_first, .ref a_t_rank, .ref a_t_told, .ref a_t_beaten, .ref a_t_leads, .ref a_t_order, .int t_count]), (a_t_beaten, aI cI 6 t_beaten_r)]
def F_X4_beats (x1 : Int32) (x2 : Int32) (t_beaten_r : Nat → Int32) : Option (Int32) := ((F_X11_inside x1 (6 : Int32)).bind (fun r1 => (if r1 = 0 then (some (0 : Int32)) else ((F_X11_inside x2 (6 : Int32)).bind (fun r4 => (if r4 = 0 then (some (0 : Int32)) else (gin x1 6 ((F_X11_has (t_beaten_r (x1).toNatClampNeg) x2).bind (fun r8 => (if r8 = 0 then (some (0 : Int32)) else (some (1 : Int32))))))))))))
set_option maxRecDepth 100000 in
theorem in_X4_beats_X4 : ∀ w ∈ wsX40, w ∈ wsX4_beats := by decide +kernel
set_option maxHeartbeats 4000000 in
set_option maxRecDepth 100000 in
theorem c_X4_beats (l : Launch) (D : va_G) (cI cZ cR : ClassId) {a_t a_t_first a_t_rank a_t_told a_t_beaten a_t_leads a_t_order : Nat} {t_count : Int32} {t_beaten_r : Nat → Int32} {x1 : Int32} {x2 : Int32} {sz : Nat} {out : Int32} (hf : F_X4_beats x1 x2 t_beaten_r = some out) : CI l yX4_beats wsX4_beats ({ frames := 1, cells := 0, slots := 0, locals := 21 } : Room) D cI cZ cR [.ref a_t, .int x1, .int x2] (wd_X4_beats cI cZ cR a_t a_t_first a_t_rank a_t_told a_t_beaten a_t_leads a_t_order t_count t_beaten_r) sz (out) (wd_X4_beats cI cZ cR a_t a_t_first a_t_rank a_t_told a_t_beaten a_t_leads a_t_order t_count t_beaten_r) := by
  refine met_of (Qf := fun A => qi D cI cZ cR A (out) (wd_X4_beats cI cZ cR a_t a_t_first a_t_rank a_t_told a_t_beaten a_t_leads a_t_order t_count t_beaten_r)) RX4 (by decide +kernel) rfl rfl (Nat.le_of_ble_eq_true rfl) ?_
  intro p e s m below meth c A X hK hA hP hD hS ls hl
  have hl : lv_has ls 3 [(0, .ref a_t), (1, .int x1), (2, .int x2)] := hl
  obtain ⟨hx, hb, hml, hr, hown, hts, hlocks, hN⟩ := id X
  unfold F_X4_beats at hf
  refine lv_iload_n hx hb dX4_beats_0 rfl (lv_at hl 1 rfl) ?_
  refine lv_bipush (v := (6 : Int32)) hx hb dX4_beats_1 (by decide) ?_
  obtain ⟨r1, hr2, hf⟩ := bnd hf
  refine wcalli (D := D) (cI := cI) (cZ := cZ) (cR := cR) (wc := (wd_X11_inside cI cZ cR)) (w' := (wd_X11_inside cI cZ cR)) [] hP hD hS hA rfl rfl rfl (rnSN (As := [.int x1, .int (6 : Int32)]) X [] hK hP hD rfl rfl (c_X11_inside l D cI cZ cR hr2) ⟨va_cnB (host := "DivisionHall") 2 hts ggX4_beats_X11_inside rfl rfl rfl (hN.2.1 ("DivisionHall$Motions", 36, yX11_inside, "DivisionHall") (by decide +kernel)) (hts (.initialized RX11) (by decide +kernel)) (by decide +kernel) ⟨Nat.le_of_ble_eq_true rfl, Nat.le_of_ble_eq_true rfl⟩, hts (.static yX11_inside) (by decide +kernel), trivial⟩ rfl hl.1 rfl (Nat.le_of_ble_eq_true rfl) dX4_beats_3) (fun H locs hP hD hS => ?_)
  have hP : va_P D vwCl (wd_X4_beats cI cZ cR a_t a_t_first a_t_rank a_t_told a_t_beaten a_t_leads a_t_order t_count t_beaten_r) H := hP
  have hD : va_D A (wd_X4_beats cI cZ cR a_t a_t_first a_t_rank a_t_told a_t_beaten a_t_leads a_t_order t_count t_beaten_r) := hD
  refine lv_if_eq (tgt := 35) hx hb dX4_beats_6 (by decide) (fun c3 => ?_) (fun c3 => ?_)
  · have hf := ipos c3 hf
    refine lv_iconst (v := (0 : Int32)) hx hb dX4_beats_35 (by decide) ?_
    cases hf
    exact retz (Or.inl rfl) X hK hP hD hS dX4_beats_36
  · have hf := ineg c3 hf
    refine lv_iload_n hx hb dX4_beats_9 rfl (lv_at hl 2 rfl) ?_
    refine lv_bipush (v := (6 : Int32)) hx hb dX4_beats_10 (by decide) ?_
    obtain ⟨r4, hr5, hf⟩ := bnd hf
    refine wcalli (D := D) (cI := cI) (cZ := cZ) (cR := cR) (wc := (wd_X11_inside cI cZ cR)) (w' := (wd_X11_inside cI cZ cR)) [] hP hD hS hA rfl rfl rfl (rnSN (As := [.int x2, .int (6 : Int32)]) X [] hK hP hD rfl rfl (c_X11_inside l D cI cZ cR hr5) ⟨va_cnB (host := "DivisionHall") 2 hts ggX4_beats_X11_inside rfl rfl rfl (hN.2.1 ("DivisionHall$Motions", 36, yX11_inside, "DivisionHall") (by decide +kernel)) (hts (.initialized RX11) (by decide +kernel)) (by decide +kernel) ⟨Nat.le_of_ble_eq_true rfl, Nat.le_of_ble_eq_true rfl⟩, hts (.static yX11_inside) (by decide +kernel), trivial⟩ rfl hl.1 rfl (Nat.le_of_ble_eq_true rfl) dX4_beats_12) (fun H locs hP hD hS => ?_)
    have hP : va_P D vwCl (wd_X4_beats cI cZ cR a_t a_t_first a_t_rank a_t_told a_t_beaten a_t_leads a_t_order t_count t_beaten_r) H := hP
    have hD : va_D A (wd_X4_beats cI cZ cR a_t a_t_first a_t_rank a_t_told a_t_beaten a_t_leads a_t_order t_count t_beaten_r) := hD
    refine lv_if_eq (tgt := 35) hx hb dX4_beats_15 (by decide) (fun c6 => ?_) (fun c6 => ?_)
    · have hf := ipos c6 hf
      refine lv_iconst (v := (0 : Int32)) hx hb dX4_beats_35 (by decide) ?_
      cases hf
      exact retz (Or.inl rfl) X hK hP hD hS dX4_beats_36
    · have hf := ineg c6 hf
      refine lv_aload_n hx hb dX4_beats_18 rfl (lv_at hl 0 rfl) ?_
      refine va_get (D := D) (ci := 4) (v := .ref a_t_beaten) (C := RX4) (T := TX4) (N := 7) hx hb hts in_X4_beats_X4 hown hK hP 0 rfl rfl 3 (by decide) (hts (.fieldLink RX4 21 "DivisionHall$Motions" "beaten" "[I") (by decide +kernel)) (fun _ h9 => h9) rfl dX4_beats_19 ?_
      refine lv_iload_n hx hb dX4_beats_22 rfl (lv_at hl 1 rfl) ?_
      obtain ⟨hi7, hf⟩ := gin_s hf
      refine va_iald hx hb hK hP 1 0 rfl rfl hi7 dX4_beats_23 ?_
      refine lv_iload_n hx hb dX4_beats_24 rfl (lv_at hl 2 rfl) ?_
      obtain ⟨r8, hr9, hf⟩ := bnd hf
      refine wcalli (D := D) (cI := cI) (cZ := cZ) (cR := cR) (wc := (wd_X11_has cI cZ cR)) (w' := (wd_X11_has cI cZ cR)) [] hP hD hS hA rfl rfl rfl (rnSN (As := [.int (t_beaten_r (x1).toNatClampNeg), .int x2]) X [] hK hP hD rfl rfl (c_X11_has l D cI cZ cR hr9) ⟨va_cnB (host := "DivisionHall") 2 hts ggX4_beats_X11_has rfl rfl rfl (hN.2.1 ("DivisionHall$Motions", 40, yX11_has, "DivisionHall") (by decide +kernel)) (hts (.initialized RX11) (by decide +kernel)) (by decide +kernel) ⟨Nat.le_of_ble_eq_true rfl, Nat.le_of_ble_eq_true rfl⟩, hts (.static yX11_has) (by decide +kernel), trivial⟩ rfl hl.1 rfl (Nat.le_of_ble_eq_true rfl) dX4_beats_25) (fun H locs hP hD hS => ?_)
      have hP : va_P D vwCl (wd_X4_beats cI cZ cR a_t a_t_first a_t_rank a_t_told a_t_beaten a_t_leads a_t_order t_count t_beaten_r) H := hP
      have hD : va_D A (wd_X4_beats cI cZ cR a_t a_t_first a_t_rank a_t_told a_t_beaten a_t_leads a_t_order t_count t_beaten_r) := hD
      refine lv_if_eq (tgt := 35) hx hb dX4_beats_28 (by decide) (fun c10 => ?_) (fun c10 => ?_)
      · have hf := ipos c10 hf
        refine lv_iconst (v := (0 : Int32)) hx hb dX4_beats_35 (by decide) ?_
        cases hf
        exact retz (Or.inl rfl) X hK hP hD hS dX4_beats_36
      · have hf := ineg c10 hf
        refine lv_iconst (v := (1 : Int32)) hx hb dX4_beats_31 (by decide) ?_
        refine lv_goto (tgt := 36) hx hb dX4_beats_32 (by decide) ?_
        cases hf
        exact retz (Or.inr rfl) X hK hP hD hS dX4_beats_36

abbrev wd_X4_fromDigits (cI cZ cR : ClassId) (a_t a_t_first a_t_rank a_t_told a_t_beaten a_t_leads a_t_order : Nat) (t_count : Int32) (t_order_r : Nat → Int32) : va_W := [(a_t, oB 4 [.ref a_t_first, .ref a_t_rank, .ref a_t_told, .ref a_t_beaten, .ref a_t_leads, .ref a_t_order, .int t_count]), (a_t_order, aI cI 6 t_order_r)]
def F_X4_fromDigits_62 : Nat → Int32 → Int32 → Int32 → Int32 → (Nat → Int32) → Option (Int32 × Int32 × (Nat → Int32))
  | 0, _, _, _, _, _ => none
  | n + 1, x4, x5, x6, t_count, t_order_r => (if x6 < 0 then (some ((1 : Int32), t_count, t_order_r)) else (if (6 : Int32) ≤ x6 then (some ((1 : Int32), t_count, t_order_r)) else ((F_X11_inside (x5 - x5 / (10 : Int32) * (10 : Int32)) (6 : Int32)).bind (fun r10 => (if r10 = 0 then (some ((0 : Int32), t_count, t_order_r)) else ((F_X11_has x4 (x5 - x5 / (10 : Int32) * (10 : Int32))).bind (fun r13 => (if r13 = 0 then (gin x6 6 (F_X4_fromDigits_62 n (x4 ||| ((1 : Int32) <<< ((x5 - x5 / (10 : Int32) * (10 : Int32)) &&& 31))) (x5 / (10 : Int32)) (x6 + (-1 : Int32)) t_count (upd t_order_r (x6).toNatClampNeg (x5 - x5 / (10 : Int32) * (10 : Int32))))) else (some ((0 : Int32), t_count, t_order_r))))))))))
def F_X4_fromDigits_34 (x1 : Int32) (x2 : Int32) (x3 : Int32) (t_count : Int32) (t_order_r : Nat → Int32) : Option (Int32 × Int32 × (Nat → Int32)) := (if x3 = (9 : Int32) then (if x2 = 0 then (some ((0 : Int32), t_count, t_order_r)) else (F_X4_fromDigits_62 FU (0 : Int32) x1 (x2 - (1 : Int32)) x2 t_order_r)) else (some ((0 : Int32), t_count, t_order_r)))
def F_X4_fromDigits_7 (x1 : Int32) : Nat → Int32 → Int32 → Int32 → Int32 → (Nat → Int32) → Option (Int32 × Int32 × (Nat → Int32))
  | 0, _, _, _, _, _ => none
  | n + 1, x2, x3, x4, t_count, t_order_r => (if (6 : Int32) ≤ x4 then (F_X4_fromDigits_34 x1 x2 x3 t_count t_order_r) else (if x3 ≤ (9 : Int32) then (F_X4_fromDigits_34 x1 x2 x3 t_count t_order_r) else (F_X4_fromDigits_7 x1 n (x2 + (1 : Int32)) (x3 / (10 : Int32)) (x4 + (1 : Int32)) t_count t_order_r)))
def F_X4_fromDigits (x1 : Int32) (t_count : Int32) (t_order_r : Nat → Int32) : Option (Int32 × Int32 × (Nat → Int32)) := (F_X4_fromDigits_7 x1 FU (0 : Int32) x1 (0 : Int32) t_count t_order_r)
set_option maxRecDepth 100000 in
theorem in_X4_fromDigits_X4 : ∀ w ∈ wsX40, w ∈ wsX4_fromDigits := by decide +kernel
set_option maxHeartbeats 4000000 in
set_option maxRecDepth 100000 in
theorem w_X4_fromDigits_62 {p : Program} {l : Launch} {e : Env} {s : State} {m : MethodId} {args : Array Value} {below : List Frame} {meth : Method} {c : Code} {D : va_G} {cI cZ cR : ClassId} {A : Nat → Prop} {a_t a_t_first a_t_rank a_t_told a_t_beaten a_t_leads a_t_order : Nat} {out : Int32 × Int32 × (Nat → Int32)} (X : cx p s m args meth c cX4_fromDigits 8 (some .boolean) RX4 wsX4_fromDigits) (hK : va_K D vwCl (ty3 cI cZ cR) s) (hA : ∀ q, s.heap.size ≤ q → A q) : ∀ (n : Nat) (x4 : Int32) (x5 : Int32) (x6 : Int32) (t_count : Int32) (t_order_r : Nat → Int32), F_X4_fromDigits_62 n x4 x5 x6 t_count t_order_r = some out → ∀ (H : Heap) (locs : List Loc), va_P D vwCl (wd_X4_fromDigits cI cZ cR a_t a_t_first a_t_rank a_t_told a_t_beaten a_t_leads a_t_order t_count t_order_r) H → va_D A (wd_X4_fromDigits cI cZ cR a_t a_t_first a_t_rank a_t_told a_t_beaten a_t_leads a_t_order t_count t_order_r) → va_S A s.heap H locs → ∀ (ls : Array Slot), lv_has ls 8 [(0, .ref a_t), (4, .int x4), (5, .int x5), (6, .int x6)] → W p l e (headSpec wsX4_fromDigits ({ frames := 1, cells := 0, slots := 0, locals := 21 } : Room)).room s m args below meth c H locs 0 0 (MQ below (qi D cI cZ cR A (out.1) (wd_X4_fromDigits cI cZ cR a_t a_t_first a_t_rank a_t_told a_t_beaten a_t_leads a_t_order (out.2.1) (out.2.2))) args s 0 0 A) (F0 m 62 ls []) := by
  obtain ⟨hx, hb, hml, hr, hown, hts, hlocks, hN⟩ := id X
  intro n
  induction n with
  | zero =>
    intro x4 x5 x6 t_count t_order_r hf
    cases (show (none : Option (Int32 × Int32 × (Nat → Int32))) = some out from hf)
  | succ n ih =>
    intro x4 x5 x6 t_count t_order_r hf H locs hP hD hS ls hl
    rw [F_X4_fromDigits_62] at hf
    refine lv_iload hx hb dX4_fromDigits_62 (lv_at hl 3 rfl) ?_
    refine lv_if_lt (tgt := 134) hx hb dX4_fromDigits_64 (by decide) (fun c6 => ?_) (fun c6 => ?_)
    · have hf := ipos c6 hf
      refine lv_iconst (v := (1 : Int32)) hx hb dX4_fromDigits_134 (by decide) ?_
      cases hf
      exact retz (Or.inr rfl) X hK hP hD hS dX4_fromDigits_135
    · have hf := ineg c6 hf
      refine lv_iload hx hb dX4_fromDigits_67 (lv_at hl 3 rfl) ?_
      refine lv_bipush (v := (6 : Int32)) hx hb dX4_fromDigits_69 (by decide) ?_
      refine lv_icmp_ge (tgt := 134) hx hb dX4_fromDigits_71 (by decide) (fun c7 => ?_) (fun c7 => ?_)
      · have hf := ipos c7 hf
        refine lv_iconst (v := (1 : Int32)) hx hb dX4_fromDigits_134 (by decide) ?_
        cases hf
        exact retz (Or.inr rfl) X hK hP hD hS dX4_fromDigits_135
      · have hf := ineg c7 hf
        refine lv_iload hx hb dX4_fromDigits_74 (lv_at hl 2 rfl) ?_
        refine lv_bipush (v := (10 : Int32)) hx hb dX4_fromDigits_76 (by decide) ?_
        refine lv_irem hx hb dX4_fromDigits_78 (by decide) ?_
        refine lv_istore (lv' := [(7, .int (x5 - x5 / (10 : Int32) * (10 : Int32))), (0, .ref a_t), (4, .int x4), (5, .int x5), (6, .int x6)]) hx hb dX4_fromDigits_79 hl (by decide) rfl (fun ls hl => ?_)
        refine lv_iload hx hb dX4_fromDigits_81 (lv_at hl 3 rfl) ?_
        refine lv_bipush (v := (10 : Int32)) hx hb dX4_fromDigits_83 (by decide) ?_
        refine lv_idiv hx hb dX4_fromDigits_85 (by decide) ?_
        refine lv_istore (lv' := [(5, .int (x5 / (10 : Int32))), (7, .int (x5 - x5 / (10 : Int32) * (10 : Int32))), (0, .ref a_t), (4, .int x4), (6, .int x6)]) hx hb dX4_fromDigits_86 hl (by decide) rfl (fun ls hl => ?_)
        refine lv_iload hx hb dX4_fromDigits_88 (lv_at hl 1 rfl) ?_
        refine lv_bipush (v := (6 : Int32)) hx hb dX4_fromDigits_90 (by decide) ?_
        obtain ⟨r10, hr11, hf⟩ := bnd hf
        refine wcalli (D := D) (cI := cI) (cZ := cZ) (cR := cR) (wc := (wd_X11_inside cI cZ cR)) (w' := (wd_X11_inside cI cZ cR)) [] hP hD hS hA rfl rfl rfl (rnSN (As := [.int (x5 - x5 / (10 : Int32) * (10 : Int32)), .int (6 : Int32)]) X [] hK hP hD rfl rfl (c_X11_inside l D cI cZ cR hr11) ⟨va_cnB (host := "DivisionHall") 2 hts ggX4_fromDigits_X11_inside rfl rfl rfl (hN.2.1 ("DivisionHall$Motions", 36, yX11_inside, "DivisionHall") (by decide +kernel)) (hts (.initialized RX11) (by decide +kernel)) (by decide +kernel) ⟨Nat.le_of_ble_eq_true rfl, Nat.le_of_ble_eq_true rfl⟩, hts (.static yX11_inside) (by decide +kernel), trivial⟩ rfl hl.1 rfl (Nat.le_of_ble_eq_true rfl) dX4_fromDigits_92) (fun H locs hP hD hS => ?_)
        have hP : va_P D vwCl (wd_X4_fromDigits cI cZ cR a_t a_t_first a_t_rank a_t_told a_t_beaten a_t_leads a_t_order t_count t_order_r) H := hP
        have hD : va_D A (wd_X4_fromDigits cI cZ cR a_t a_t_first a_t_rank a_t_told a_t_beaten a_t_leads a_t_order t_count t_order_r) := hD
        refine lv_if_eq (tgt := 108) hx hb dX4_fromDigits_95 (by decide) (fun c12 => ?_) (fun c12 => ?_)
        · have hf := ipos c12 hf
          refine lv_iconst (v := (0 : Int32)) hx hb dX4_fromDigits_108 (by decide) ?_
          cases hf
          exact retz (Or.inl rfl) X hK hP hD hS dX4_fromDigits_109
        · have hf := ineg c12 hf
          refine lv_iload hx hb dX4_fromDigits_98 (lv_at hl 3 rfl) ?_
          refine lv_iload hx hb dX4_fromDigits_100 (lv_at hl 1 rfl) ?_
          obtain ⟨r13, hr14, hf⟩ := bnd hf
          refine wcalli (D := D) (cI := cI) (cZ := cZ) (cR := cR) (wc := (wd_X11_has cI cZ cR)) (w' := (wd_X11_has cI cZ cR)) [] hP hD hS hA rfl rfl rfl (rnSN (As := [.int x4, .int (x5 - x5 / (10 : Int32) * (10 : Int32))]) X [] hK hP hD rfl rfl (c_X11_has l D cI cZ cR hr14) ⟨va_cnB (host := "DivisionHall") 2 hts ggX4_fromDigits_X11_has rfl rfl rfl (hN.2.1 ("DivisionHall$Motions", 40, yX11_has, "DivisionHall") (by decide +kernel)) (hts (.initialized RX11) (by decide +kernel)) (by decide +kernel) ⟨Nat.le_of_ble_eq_true rfl, Nat.le_of_ble_eq_true rfl⟩, hts (.static yX11_has) (by decide +kernel), trivial⟩ rfl hl.1 rfl (Nat.le_of_ble_eq_true rfl) dX4_fromDigits_102) (fun H locs hP hD hS => ?_)
          have hP : va_P D vwCl (wd_X4_fromDigits cI cZ cR a_t a_t_first a_t_rank a_t_told a_t_beaten a_t_leads a_t_order t_count t_order_r) H := hP
          have hD : va_D A (wd_X4_fromDigits cI cZ cR a_t a_t_first a_t_rank a_t_told a_t_beaten a_t_leads a_t_order t_count t_order_r) := hD
          refine lv_if_eq (tgt := 110) hx hb dX4_fromDigits_105 (by decide) (fun c15 => ?_) (fun c15 => ?_)
          · have hf := ipos c15 hf
            refine lv_iload hx hb dX4_fromDigits_110 (lv_at hl 3 rfl) ?_
            refine lv_iconst (v := (1 : Int32)) hx hb dX4_fromDigits_112 (by decide) ?_
            refine lv_iload hx hb dX4_fromDigits_113 (lv_at hl 1 rfl) ?_
            refine lv_ishl hx hb dX4_fromDigits_115 ?_
            refine lv_ior hx hb dX4_fromDigits_116 ?_
            refine lv_istore (lv' := [(4, .int (x4 ||| ((1 : Int32) <<< ((x5 - x5 / (10 : Int32) * (10 : Int32)) &&& 31)))), (5, .int (x5 / (10 : Int32))), (7, .int (x5 - x5 / (10 : Int32) * (10 : Int32))), (0, .ref a_t), (6, .int x6)]) hx hb dX4_fromDigits_117 hl (by decide) rfl (fun ls hl => ?_)
            refine lv_aload_n hx hb dX4_fromDigits_119 rfl (lv_at hl 3 rfl) ?_
            refine va_get (D := D) (ci := 4) (v := .ref a_t_order) (C := RX4) (T := TX4) (N := 7) hx hb hts in_X4_fromDigits_X4 hown hK hP 0 rfl rfl 5 (by decide) (hts (.fieldLink RX4 27 "DivisionHall$Motions" "order" "[I") (by decide +kernel)) (fun _ h9 => h9) rfl dX4_fromDigits_120 ?_
            refine lv_iload hx hb dX4_fromDigits_123 (lv_at hl 4 rfl) ?_
            refine lv_iload hx hb dX4_fromDigits_125 (lv_at hl 2 rfl) ?_
            obtain ⟨hi16, hf⟩ := gin_s hf
            refine va_iast hx hb hK hP hD hS 1 0 rfl rfl hi16 dX4_fromDigits_127 (fun H locs hP hD hS => ?_)
            have hP : va_P D vwCl (wd_X4_fromDigits cI cZ cR a_t a_t_first a_t_rank a_t_told a_t_beaten a_t_leads a_t_order t_count (upd t_order_r (x6).toNatClampNeg (x5 - x5 / (10 : Int32) * (10 : Int32)))) H := hP
            have hD : va_D A (wd_X4_fromDigits cI cZ cR a_t a_t_first a_t_rank a_t_told a_t_beaten a_t_leads a_t_order t_count (upd t_order_r (x6).toNatClampNeg (x5 - x5 / (10 : Int32) * (10 : Int32)))) := hD
            refine lv_iinc (v := (x6 + (-1 : Int32))) (lv' := [(6, .int (x6 + (-1 : Int32))), (4, .int (x4 ||| ((1 : Int32) <<< ((x5 - x5 / (10 : Int32) * (10 : Int32)) &&& 31)))), (5, .int (x5 / (10 : Int32))), (7, .int (x5 - x5 / (10 : Int32) * (10 : Int32))), (0, .ref a_t)]) hx hb dX4_fromDigits_128 hl (k := 4) rfl rfl (by decide) rfl (fun ls hl => ?_)
            refine lv_goto (tgt := 62) hx hb dX4_fromDigits_131 (by decide) ?_
            exact ih (x4 ||| ((1 : Int32) <<< ((x5 - x5 / (10 : Int32) * (10 : Int32)) &&& 31))) (x5 / (10 : Int32)) (x6 + (-1 : Int32)) t_count (upd t_order_r (x6).toNatClampNeg (x5 - x5 / (10 : Int32) * (10 : Int32))) hf _ _ hP hD hS _ (lv_sub hl [4, 1, 2, 0] rfl)
          · have hf := ineg c15 hf
            refine lv_iconst (v := (0 : Int32)) hx hb dX4_fromDigits_108 (by decide) ?_
            cases hf
            exact retz (Or.inl rfl) X hK hP hD hS dX4_fromDigits_109
set_option maxHeartbeats 4000000 in
set_option maxRecDepth 100000 in
theorem w_X4_fromDigits_34 {p : Program} {l : Launch} {e : Env} {s : State} {m : MethodId} {args : Array Value} {below : List Frame} {meth : Method} {c : Code} {D : va_G} {cI cZ cR : ClassId} {A : Nat → Prop} {a_t a_t_first a_t_rank a_t_told a_t_beaten a_t_leads a_t_order : Nat} {x1 : Int32} {out : Int32 × Int32 × (Nat → Int32)} (X : cx p s m args meth c cX4_fromDigits 8 (some .boolean) RX4 wsX4_fromDigits) (hK : va_K D vwCl (ty3 cI cZ cR) s) (hA : ∀ q, s.heap.size ≤ q → A q) : ∀ (x2 : Int32) (x3 : Int32) (t_count : Int32) (t_order_r : Nat → Int32), F_X4_fromDigits_34 x1 x2 x3 t_count t_order_r = some out → ∀ (H : Heap) (locs : List Loc), va_P D vwCl (wd_X4_fromDigits cI cZ cR a_t a_t_first a_t_rank a_t_told a_t_beaten a_t_leads a_t_order t_count t_order_r) H → va_D A (wd_X4_fromDigits cI cZ cR a_t a_t_first a_t_rank a_t_told a_t_beaten a_t_leads a_t_order t_count t_order_r) → va_S A s.heap H locs → ∀ (ls : Array Slot), lv_has ls 8 [(0, .ref a_t), (1, .int x1), (2, .int x2), (3, .int x3)] → W p l e (headSpec wsX4_fromDigits ({ frames := 1, cells := 0, slots := 0, locals := 21 } : Room)).room s m args below meth c H locs 0 0 (MQ below (qi D cI cZ cR A (out.1) (wd_X4_fromDigits cI cZ cR a_t a_t_first a_t_rank a_t_told a_t_beaten a_t_leads a_t_order (out.2.1) (out.2.2))) args s 0 0 A) (F0 m 34 ls []) := by
  obtain ⟨hx, hb, hml, hr, hown, hts, hlocks, hN⟩ := id X
  intro x2 x3 t_count t_order_r hf H locs hP hD hS ls hl
  unfold F_X4_fromDigits_34 at hf
  refine lv_iload_n hx hb dX4_fromDigits_34 rfl (lv_at hl 3 rfl) ?_
  refine lv_bipush (v := (9 : Int32)) hx hb dX4_fromDigits_35 (by decide) ?_
  refine lv_icmp_ne (tgt := 44) hx hb dX4_fromDigits_37 (by decide) (fun c4 => ?_) (fun c4 => ?_)
  · have hf := ineg c4 hf
    refine lv_iconst (v := (0 : Int32)) hx hb dX4_fromDigits_44 (by decide) ?_
    cases hf
    exact retz (Or.inl rfl) X hK hP hD hS dX4_fromDigits_45
  · have hf := ipos c4 hf
    refine lv_iload_n hx hb dX4_fromDigits_40 rfl (lv_at hl 2 rfl) ?_
    refine lv_if_ne (tgt := 46) hx hb dX4_fromDigits_41 (by decide) (fun c5 => ?_) (fun c5 => ?_)
    · have hf := ineg c5 hf
      refine lv_aload_n hx hb dX4_fromDigits_46 rfl (lv_at hl 0 rfl) ?_
      refine lv_iload_n hx hb dX4_fromDigits_47 rfl (lv_at hl 2 rfl) ?_
      refine va_put (D := D) (ci := 4) (v := .int x2) (ty := .int) (C := RX4) (T := TX4) (N := 7) hx hb hts in_X4_fromDigits_X4 tyX4 tyX4_ok nmX4 hown hK hP hD hS 0 rfl rfl 6 (by decide) (hts (.fieldLink RX4 65 "DivisionHall$Motions" "count" "I") (by decide +kernel)) (fun _ h9 => h9) rfl (by decide +kernel) rfl rfl (Nat.le_of_ble_eq_true rfl) dX4_fromDigits_48 (fun H locs hP hD hS => ?_)
      have hP : va_P D vwCl (wd_X4_fromDigits cI cZ cR a_t a_t_first a_t_rank a_t_told a_t_beaten a_t_leads a_t_order x2 t_order_r) H := hP
      have hD : va_D A (wd_X4_fromDigits cI cZ cR a_t a_t_first a_t_rank a_t_told a_t_beaten a_t_leads a_t_order x2 t_order_r) := hD
      refine lv_iconst (v := (0 : Int32)) hx hb dX4_fromDigits_51 (by decide) ?_
      refine lv_istore (lv' := [(4, .int (0 : Int32)), (0, .ref a_t), (1, .int x1), (2, .int x2), (3, .int x3)]) hx hb dX4_fromDigits_52 hl (by decide) rfl (fun ls hl => ?_)
      refine lv_iload_n hx hb dX4_fromDigits_54 rfl (lv_at hl 2 rfl) ?_
      refine lv_istore (lv' := [(5, .int x1), (4, .int (0 : Int32)), (0, .ref a_t), (1, .int x1), (2, .int x2), (3, .int x3)]) hx hb dX4_fromDigits_55 hl (by decide) rfl (fun ls hl => ?_)
      refine lv_iload_n hx hb dX4_fromDigits_57 rfl (lv_at hl 4 rfl) ?_
      refine lv_iconst (v := (1 : Int32)) hx hb dX4_fromDigits_58 (by decide) ?_
      refine lv_isub hx hb dX4_fromDigits_59 ?_
      refine lv_istore (lv' := [(6, .int (x2 - (1 : Int32))), (5, .int x1), (4, .int (0 : Int32)), (0, .ref a_t), (1, .int x1), (2, .int x2), (3, .int x3)]) hx hb dX4_fromDigits_60 hl (by decide) rfl (fun ls hl => ?_)
      exact w_X4_fromDigits_62 X hK hA _ (0 : Int32) x1 (x2 - (1 : Int32)) x2 t_order_r hf _ _ hP hD hS _ (lv_sub hl [3, 2, 1, 0] rfl)
    · have hf := ipos c5 hf
      refine lv_iconst (v := (0 : Int32)) hx hb dX4_fromDigits_44 (by decide) ?_
      cases hf
      exact retz (Or.inl rfl) X hK hP hD hS dX4_fromDigits_45
set_option maxHeartbeats 4000000 in
set_option maxRecDepth 100000 in
theorem w_X4_fromDigits_7 {p : Program} {l : Launch} {e : Env} {s : State} {m : MethodId} {args : Array Value} {below : List Frame} {meth : Method} {c : Code} {D : va_G} {cI cZ cR : ClassId} {A : Nat → Prop} {a_t a_t_first a_t_rank a_t_told a_t_beaten a_t_leads a_t_order : Nat} {x1 : Int32} {out : Int32 × Int32 × (Nat → Int32)} (X : cx p s m args meth c cX4_fromDigits 8 (some .boolean) RX4 wsX4_fromDigits) (hK : va_K D vwCl (ty3 cI cZ cR) s) (hA : ∀ q, s.heap.size ≤ q → A q) : ∀ (n : Nat) (x2 : Int32) (x3 : Int32) (x4 : Int32) (t_count : Int32) (t_order_r : Nat → Int32), F_X4_fromDigits_7 x1 n x2 x3 x4 t_count t_order_r = some out → ∀ (H : Heap) (locs : List Loc), va_P D vwCl (wd_X4_fromDigits cI cZ cR a_t a_t_first a_t_rank a_t_told a_t_beaten a_t_leads a_t_order t_count t_order_r) H → va_D A (wd_X4_fromDigits cI cZ cR a_t a_t_first a_t_rank a_t_told a_t_beaten a_t_leads a_t_order t_count t_order_r) → va_S A s.heap H locs → ∀ (ls : Array Slot), lv_has ls 8 [(0, .ref a_t), (1, .int x1), (2, .int x2), (3, .int x3), (4, .int x4)] → W p l e (headSpec wsX4_fromDigits ({ frames := 1, cells := 0, slots := 0, locals := 21 } : Room)).room s m args below meth c H locs 0 0 (MQ below (qi D cI cZ cR A (out.1) (wd_X4_fromDigits cI cZ cR a_t a_t_first a_t_rank a_t_told a_t_beaten a_t_leads a_t_order (out.2.1) (out.2.2))) args s 0 0 A) (F0 m 7 ls []) := by
  obtain ⟨hx, hb, hml, hr, hown, hts, hlocks, hN⟩ := id X
  intro n
  induction n with
  | zero =>
    intro x2 x3 x4 t_count t_order_r hf
    cases (show (none : Option (Int32 × Int32 × (Nat → Int32))) = some out from hf)
  | succ n ih =>
    intro x2 x3 x4 t_count t_order_r hf H locs hP hD hS ls hl
    rw [F_X4_fromDigits_7] at hf
    refine lv_iload hx hb dX4_fromDigits_7 (lv_at hl 4 rfl) ?_
    refine lv_bipush (v := (6 : Int32)) hx hb dX4_fromDigits_9 (by decide) ?_
    refine lv_icmp_ge (tgt := 34) hx hb dX4_fromDigits_11 (by decide) (fun c1 => ?_) (fun c1 => ?_)
    · have hf := ipos c1 hf
      exact w_X4_fromDigits_34 X hK hA x2 x3 t_count t_order_r hf _ _ hP hD hS _ (lv_sub hl [0, 1, 2, 3] rfl)
    · have hf := ineg c1 hf
      refine lv_iload_n hx hb dX4_fromDigits_14 rfl (lv_at hl 3 rfl) ?_
      refine lv_bipush (v := (9 : Int32)) hx hb dX4_fromDigits_15 (by decide) ?_
      refine lv_icmp_le (tgt := 34) hx hb dX4_fromDigits_17 (by decide) (fun c2 => ?_) (fun c2 => ?_)
      · have hf := ipos c2 hf
        exact w_X4_fromDigits_34 X hK hA x2 x3 t_count t_order_r hf _ _ hP hD hS _ (lv_sub hl [0, 1, 2, 3] rfl)
      · have hf := ineg c2 hf
        refine lv_iload_n hx hb dX4_fromDigits_20 rfl (lv_at hl 3 rfl) ?_
        refine lv_bipush (v := (10 : Int32)) hx hb dX4_fromDigits_21 (by decide) ?_
        refine lv_idiv hx hb dX4_fromDigits_23 (by decide) ?_
        refine lv_istore_n (lv' := [(3, .int (x3 / (10 : Int32))), (0, .ref a_t), (1, .int x1), (2, .int x2), (4, .int x4)]) hx hb dX4_fromDigits_24 rfl hl (by decide) rfl (fun ls hl => ?_)
        refine lv_iinc (v := (x2 + (1 : Int32))) (lv' := [(2, .int (x2 + (1 : Int32))), (3, .int (x3 / (10 : Int32))), (0, .ref a_t), (1, .int x1), (4, .int x4)]) hx hb dX4_fromDigits_25 hl (k := 3) rfl rfl (by decide) rfl (fun ls hl => ?_)
        refine lv_iinc (v := (x4 + (1 : Int32))) (lv' := [(4, .int (x4 + (1 : Int32))), (2, .int (x2 + (1 : Int32))), (3, .int (x3 / (10 : Int32))), (0, .ref a_t), (1, .int x1)]) hx hb dX4_fromDigits_28 hl (k := 4) rfl rfl (by decide) rfl (fun ls hl => ?_)
        refine lv_goto (tgt := 7) hx hb dX4_fromDigits_31 (by decide) ?_
        exact ih (x2 + (1 : Int32)) (x3 / (10 : Int32)) (x4 + (1 : Int32)) t_count t_order_r hf _ _ hP hD hS _ (lv_sub hl [3, 4, 1, 2, 0] rfl)
set_option maxHeartbeats 4000000 in
set_option maxRecDepth 100000 in
theorem c_X4_fromDigits (l : Launch) (D : va_G) (cI cZ cR : ClassId) {a_t a_t_first a_t_rank a_t_told a_t_beaten a_t_leads a_t_order : Nat} {t_count : Int32} {t_order_r : Nat → Int32} {x1 : Int32} {sz : Nat} {out : Int32 × Int32 × (Nat → Int32)} (hf : F_X4_fromDigits x1 t_count t_order_r = some out) : CI l yX4_fromDigits wsX4_fromDigits ({ frames := 1, cells := 0, slots := 0, locals := 21 } : Room) D cI cZ cR [.ref a_t, .int x1] (wd_X4_fromDigits cI cZ cR a_t a_t_first a_t_rank a_t_told a_t_beaten a_t_leads a_t_order t_count t_order_r) sz (out.1) (wd_X4_fromDigits cI cZ cR a_t a_t_first a_t_rank a_t_told a_t_beaten a_t_leads a_t_order (out.2.1) (out.2.2)) := by
  refine met_of (Qf := fun A => qi D cI cZ cR A (out.1) (wd_X4_fromDigits cI cZ cR a_t a_t_first a_t_rank a_t_told a_t_beaten a_t_leads a_t_order (out.2.1) (out.2.2))) RX4 (by decide +kernel) rfl rfl (Nat.le_of_ble_eq_true rfl) ?_
  intro p e s m below meth c A X hK hA hP hD hS ls hl
  have hl : lv_has ls 8 [(0, .ref a_t), (1, .int x1)] := hl
  obtain ⟨hx, hb, hml, hr, hown, hts, hlocks, hN⟩ := id X
  unfold F_X4_fromDigits at hf
  refine lv_iconst (v := (0 : Int32)) hx hb dX4_fromDigits_0 (by decide) ?_
  refine lv_istore_n (lv' := [(2, .int (0 : Int32)), (0, .ref a_t), (1, .int x1)]) hx hb dX4_fromDigits_1 rfl hl (by decide) rfl (fun ls hl => ?_)
  refine lv_iload_n hx hb dX4_fromDigits_2 rfl (lv_at hl 2 rfl) ?_
  refine lv_istore_n (lv' := [(3, .int x1), (2, .int (0 : Int32)), (0, .ref a_t), (1, .int x1)]) hx hb dX4_fromDigits_3 rfl hl (by decide) rfl (fun ls hl => ?_)
  refine lv_iconst (v := (0 : Int32)) hx hb dX4_fromDigits_4 (by decide) ?_
  refine lv_istore (lv' := [(4, .int (0 : Int32)), (3, .int x1), (2, .int (0 : Int32)), (0, .ref a_t), (1, .int x1)]) hx hb dX4_fromDigits_5 hl (by decide) rfl (fun ls hl => ?_)
  exact w_X4_fromDigits_7 X hK hA _ (0 : Int32) x1 (0 : Int32) t_count t_order_r hf _ _ hP hD hS _ (lv_sub hl [3, 4, 2, 1, 0] rfl)

abbrev wd_X4_toDigits (cI cZ cR : ClassId) (a_t a_t_first a_t_rank a_t_told a_t_beaten a_t_leads a_t_order : Nat) (t_count : Int32) (t_order_r : Nat → Int32) : va_W := [(a_t, oB 4 [.ref a_t_first, .ref a_t_rank, .ref a_t_told, .ref a_t_beaten, .ref a_t_leads, .ref a_t_order, .int t_count]), (a_t_order, aI cI 6 t_order_r)]
def F_X4_toDigits_5 (t_count : Int32) (t_order_r : Nat → Int32) : Nat → Int32 → Int32 → Option (Int32)
  | 0, _, _ => none
  | n + 1, x1, x2 => (if t_count ≤ x2 then (some x1) else (if (6 : Int32) ≤ x2 then (some x1) else (gin x2 6 (F_X4_toDigits_5 t_count t_order_r n ((x1 * (10 : Int32)) + (t_order_r (x2).toNatClampNeg)) (x2 + (1 : Int32))))))
def F_X4_toDigits (t_count : Int32) (t_order_r : Nat → Int32) : Option (Int32) := (F_X4_toDigits_5 t_count t_order_r FU (9 : Int32) (0 : Int32))
set_option maxRecDepth 100000 in
theorem in_X4_toDigits_X4 : ∀ w ∈ wsX40, w ∈ wsX4_toDigits := by decide +kernel
set_option maxHeartbeats 4000000 in
set_option maxRecDepth 100000 in
theorem w_X4_toDigits_5 {p : Program} {l : Launch} {e : Env} {s : State} {m : MethodId} {args : Array Value} {below : List Frame} {meth : Method} {c : Code} {D : va_G} {cI cZ cR : ClassId} {A : Nat → Prop} {a_t a_t_first a_t_rank a_t_told a_t_beaten a_t_leads a_t_order : Nat} {t_count : Int32} {t_order_r : Nat → Int32} {out : Int32} (X : cx p s m args meth c cX4_toDigits 3 (some .int) RX4 wsX4_toDigits) (hK : va_K D vwCl (ty3 cI cZ cR) s) (hA : ∀ q, s.heap.size ≤ q → A q) : ∀ (n : Nat) (x1 : Int32) (x2 : Int32), F_X4_toDigits_5 t_count t_order_r n x1 x2 = some out → ∀ (H : Heap) (locs : List Loc), va_P D vwCl (wd_X4_toDigits cI cZ cR a_t a_t_first a_t_rank a_t_told a_t_beaten a_t_leads a_t_order t_count t_order_r) H → va_D A (wd_X4_toDigits cI cZ cR a_t a_t_first a_t_rank a_t_told a_t_beaten a_t_leads a_t_order t_count t_order_r) → va_S A s.heap H locs → ∀ (ls : Array Slot), lv_has ls 3 [(0, .ref a_t), (1, .int x1), (2, .int x2)] → W p l e (headSpec wsX4_toDigits ({ frames := 0, cells := 0, slots := 0, locals := 0 } : Room)).room s m args below meth c H locs 0 0 (MQ below (qi D cI cZ cR A (out) (wd_X4_toDigits cI cZ cR a_t a_t_first a_t_rank a_t_told a_t_beaten a_t_leads a_t_order t_count t_order_r)) args s 0 0 A) (F0 m 5 ls []) := by
  obtain ⟨hx, hb, hml, hr, hown, hts, hlocks, hN⟩ := id X
  intro n
  induction n with
  | zero =>
    intro x1 x2 hf
    cases (show (none : Option (Int32)) = some out from hf)
  | succ n ih =>
    intro x1 x2 hf H locs hP hD hS ls hl
    rw [F_X4_toDigits_5] at hf
    refine lv_iload_n hx hb dX4_toDigits_5 rfl (lv_at hl 2 rfl) ?_
    refine lv_aload_n hx hb dX4_toDigits_6 rfl (lv_at hl 0 rfl) ?_
    refine va_get (D := D) (ci := 4) (v := .int t_count) (C := RX4) (T := TX4) (N := 7) hx hb hts in_X4_toDigits_X4 hown hK hP 0 rfl rfl 6 (by decide) (hts (.fieldLink RX4 65 "DivisionHall$Motions" "count" "I") (by decide +kernel)) (fun _ h9 => h9) rfl dX4_toDigits_7 ?_
    refine lv_icmp_ge (tgt := 37) hx hb dX4_toDigits_10 (by decide) (fun c1 => ?_) (fun c1 => ?_)
    · have hf := ipos c1 hf
      refine lv_iload_n hx hb dX4_toDigits_37 rfl (lv_at hl 1 rfl) ?_
      cases hf
      exact reti X hK hP hD hS dX4_toDigits_38
    · have hf := ineg c1 hf
      refine lv_iload_n hx hb dX4_toDigits_13 rfl (lv_at hl 2 rfl) ?_
      refine lv_bipush (v := (6 : Int32)) hx hb dX4_toDigits_14 (by decide) ?_
      refine lv_icmp_ge (tgt := 37) hx hb dX4_toDigits_16 (by decide) (fun c2 => ?_) (fun c2 => ?_)
      · have hf := ipos c2 hf
        refine lv_iload_n hx hb dX4_toDigits_37 rfl (lv_at hl 1 rfl) ?_
        cases hf
        exact reti X hK hP hD hS dX4_toDigits_38
      · have hf := ineg c2 hf
        refine lv_iload_n hx hb dX4_toDigits_19 rfl (lv_at hl 1 rfl) ?_
        refine lv_bipush (v := (10 : Int32)) hx hb dX4_toDigits_20 (by decide) ?_
        refine lv_imul hx hb dX4_toDigits_22 ?_
        refine lv_aload_n hx hb dX4_toDigits_23 rfl (lv_at hl 0 rfl) ?_
        refine va_get (D := D) (ci := 4) (v := .ref a_t_order) (C := RX4) (T := TX4) (N := 7) hx hb hts in_X4_toDigits_X4 hown hK hP 0 rfl rfl 5 (by decide) (hts (.fieldLink RX4 27 "DivisionHall$Motions" "order" "[I") (by decide +kernel)) (fun _ h9 => h9) rfl dX4_toDigits_24 ?_
        refine lv_iload_n hx hb dX4_toDigits_27 rfl (lv_at hl 2 rfl) ?_
        obtain ⟨hi3, hf⟩ := gin_s hf
        refine va_iald hx hb hK hP 1 0 rfl rfl hi3 dX4_toDigits_28 ?_
        refine lv_iadd hx hb dX4_toDigits_29 ?_
        refine lv_istore_n (lv' := [(1, .int ((x1 * (10 : Int32)) + (t_order_r (x2).toNatClampNeg))), (0, .ref a_t), (2, .int x2)]) hx hb dX4_toDigits_30 rfl hl (by decide) rfl (fun ls hl => ?_)
        refine lv_iinc (v := (x2 + (1 : Int32))) (lv' := [(2, .int (x2 + (1 : Int32))), (1, .int ((x1 * (10 : Int32)) + (t_order_r (x2).toNatClampNeg))), (0, .ref a_t)]) hx hb dX4_toDigits_31 hl (k := 2) rfl rfl (by decide) rfl (fun ls hl => ?_)
        refine lv_goto (tgt := 5) hx hb dX4_toDigits_34 (by decide) ?_
        exact ih ((x1 * (10 : Int32)) + (t_order_r (x2).toNatClampNeg)) (x2 + (1 : Int32)) hf _ _ hP hD hS _ (lv_sub hl [2, 1, 0] rfl)
set_option maxHeartbeats 4000000 in
set_option maxRecDepth 100000 in
theorem c_X4_toDigits (l : Launch) (D : va_G) (cI cZ cR : ClassId) {a_t a_t_first a_t_rank a_t_told a_t_beaten a_t_leads a_t_order : Nat} {t_count : Int32} {t_order_r : Nat → Int32} {sz : Nat} {out : Int32} (hf : F_X4_toDigits t_count t_order_r = some out) : CI l yX4_toDigits wsX4_toDigits ({ frames := 0, cells := 0, slots := 0, locals := 0 } : Room) D cI cZ cR [.ref a_t] (wd_X4_toDigits cI cZ cR a_t a_t_first a_t_rank a_t_told a_t_beaten a_t_leads a_t_order t_count t_order_r) sz (out) (wd_X4_toDigits cI cZ cR a_t a_t_first a_t_rank a_t_told a_t_beaten a_t_leads a_t_order t_count t_order_r) := by
  refine met_of (Qf := fun A => qi D cI cZ cR A (out) (wd_X4_toDigits cI cZ cR a_t a_t_first a_t_rank a_t_told a_t_beaten a_t_leads a_t_order t_count t_order_r)) RX4 (by decide +kernel) rfl rfl (Nat.le_of_ble_eq_true rfl) ?_
  intro p e s m below meth c A X hK hA hP hD hS ls hl
  have hl : lv_has ls 3 [(0, .ref a_t)] := hl
  obtain ⟨hx, hb, hml, hr, hown, hts, hlocks, hN⟩ := id X
  unfold F_X4_toDigits at hf
  refine lv_bipush (v := (9 : Int32)) hx hb dX4_toDigits_0 (by decide) ?_
  refine lv_istore_n (lv' := [(1, .int (9 : Int32)), (0, .ref a_t)]) hx hb dX4_toDigits_2 rfl hl (by decide) rfl (fun ls hl => ?_)
  refine lv_iconst (v := (0 : Int32)) hx hb dX4_toDigits_3 (by decide) ?_
  refine lv_istore_n (lv' := [(2, .int (0 : Int32)), (1, .int (9 : Int32)), (0, .ref a_t)]) hx hb dX4_toDigits_4 rfl hl (by decide) rfl (fun ls hl => ?_)
  exact w_X4_toDigits_5 X hK hA _ (9 : Int32) (0 : Int32) hf _ _ hP hD hS _ (lv_sub hl [2, 1, 0] rfl)

abbrev wd_X4_leadOf (cI cZ cR : ClassId) (a_t a_t_first a_t_rank a_t_told a_t_beaten a_t_leads a_t_order : Nat) (t_count : Int32) (t_leads_r : Nat → Int32) (t_order_r : Nat → Int32) : va_W := [(a_t, oB 4 [.ref a_t_first, .ref a_t_rank, .ref a_t_told, .ref a_t_beaten, .ref a_t_leads, .ref a_t_order, .int t_count]), (a_t_leads, aI cI 6 t_leads_r), (a_t_order, aI cI 6 t_order_r)]
def F_X4_leadOf (x1 : Int32) (t_leads_r : Nat → Int32) (t_order_r : Nat → Int32) : Option (Int32) := ((F_X11_inside x1 (6 : Int32)).bind (fun r1 => (if r1 = 0 then (some (-1 : Int32)) else (gin x1 6 ((F_X11_inside (t_order_r (x1).toNatClampNeg) (6 : Int32)).bind (fun r5 => (if r5 = 0 then (some (-1 : Int32)) else (gin x1 6 (gin (t_order_r (x1).toNatClampNeg) 6 (some (t_leads_r ((t_order_r (x1).toNatClampNeg)).toNatClampNeg)))))))))))
set_option maxRecDepth 100000 in
theorem in_X4_leadOf_X4 : ∀ w ∈ wsX40, w ∈ wsX4_leadOf := by decide +kernel
set_option maxHeartbeats 4000000 in
set_option maxRecDepth 100000 in
theorem c_X4_leadOf (l : Launch) (D : va_G) (cI cZ cR : ClassId) {a_t a_t_first a_t_rank a_t_told a_t_beaten a_t_leads a_t_order : Nat} {t_count : Int32} {t_leads_r : Nat → Int32} {t_order_r : Nat → Int32} {x1 : Int32} {sz : Nat} {out : Int32} (hf : F_X4_leadOf x1 t_leads_r t_order_r = some out) : CI l yX4_leadOf wsX4_leadOf ({ frames := 1, cells := 0, slots := 0, locals := 21 } : Room) D cI cZ cR [.ref a_t, .int x1] (wd_X4_leadOf cI cZ cR a_t a_t_first a_t_rank a_t_told a_t_beaten a_t_leads a_t_order t_count t_leads_r t_order_r) sz (out) (wd_X4_leadOf cI cZ cR a_t a_t_first a_t_rank a_t_told a_t_beaten a_t_leads a_t_order t_count t_leads_r t_order_r) := by
  refine met_of (Qf := fun A => qi D cI cZ cR A (out) (wd_X4_leadOf cI cZ cR a_t a_t_first a_t_rank a_t_told a_t_beaten a_t_leads a_t_order t_count t_leads_r t_order_r)) RX4 (by decide +kernel) rfl rfl (Nat.le_of_ble_eq_true rfl) ?_
  intro p e s m below meth c A X hK hA hP hD hS ls hl
  have hl : lv_has ls 2 [(0, .ref a_t), (1, .int x1)] := hl
  obtain ⟨hx, hb, hml, hr, hown, hts, hlocks, hN⟩ := id X
  unfold F_X4_leadOf at hf
  refine lv_iload_n hx hb dX4_leadOf_0 rfl (lv_at hl 1 rfl) ?_
  refine lv_bipush (v := (6 : Int32)) hx hb dX4_leadOf_1 (by decide) ?_
  obtain ⟨r1, hr2, hf⟩ := bnd hf
  refine wcalli (D := D) (cI := cI) (cZ := cZ) (cR := cR) (wc := (wd_X11_inside cI cZ cR)) (w' := (wd_X11_inside cI cZ cR)) [] hP hD hS hA rfl rfl rfl (rnSN (As := [.int x1, .int (6 : Int32)]) X [] hK hP hD rfl rfl (c_X11_inside l D cI cZ cR hr2) ⟨va_cnB (host := "DivisionHall") 2 hts ggX4_leadOf_X11_inside rfl rfl rfl (hN.2.1 ("DivisionHall$Motions", 36, yX11_inside, "DivisionHall") (by decide +kernel)) (hts (.initialized RX11) (by decide +kernel)) (by decide +kernel) ⟨Nat.le_of_ble_eq_true rfl, Nat.le_of_ble_eq_true rfl⟩, hts (.static yX11_inside) (by decide +kernel), trivial⟩ rfl hl.1 rfl (Nat.le_of_ble_eq_true rfl) dX4_leadOf_3) (fun H locs hP hD hS => ?_)
  have hP : va_P D vwCl (wd_X4_leadOf cI cZ cR a_t a_t_first a_t_rank a_t_told a_t_beaten a_t_leads a_t_order t_count t_leads_r t_order_r) H := hP
  have hD : va_D A (wd_X4_leadOf cI cZ cR a_t a_t_first a_t_rank a_t_told a_t_beaten a_t_leads a_t_order t_count t_leads_r t_order_r) := hD
  refine lv_if_eq (tgt := 37) hx hb dX4_leadOf_6 (by decide) (fun c3 => ?_) (fun c3 => ?_)
  · have hf := ipos c3 hf
    refine lv_iconst (v := (-1 : Int32)) hx hb dX4_leadOf_37 (by decide) ?_
    cases hf
    exact reti X hK hP hD hS dX4_leadOf_38
  · have hf := ineg c3 hf
    refine lv_aload_n hx hb dX4_leadOf_9 rfl (lv_at hl 0 rfl) ?_
    refine va_get (D := D) (ci := 4) (v := .ref a_t_order) (C := RX4) (T := TX4) (N := 7) hx hb hts in_X4_leadOf_X4 hown hK hP 0 rfl rfl 5 (by decide) (hts (.fieldLink RX4 27 "DivisionHall$Motions" "order" "[I") (by decide +kernel)) (fun _ h9 => h9) rfl dX4_leadOf_10 ?_
    refine lv_iload_n hx hb dX4_leadOf_13 rfl (lv_at hl 1 rfl) ?_
    obtain ⟨hi4, hf⟩ := gin_s hf
    refine va_iald hx hb hK hP 2 0 rfl rfl hi4 dX4_leadOf_14 ?_
    refine lv_bipush (v := (6 : Int32)) hx hb dX4_leadOf_15 (by decide) ?_
    obtain ⟨r5, hr6, hf⟩ := bnd hf
    refine wcalli (D := D) (cI := cI) (cZ := cZ) (cR := cR) (wc := (wd_X11_inside cI cZ cR)) (w' := (wd_X11_inside cI cZ cR)) [] hP hD hS hA rfl rfl rfl (rnSN (As := [.int (t_order_r (x1).toNatClampNeg), .int (6 : Int32)]) X [] hK hP hD rfl rfl (c_X11_inside l D cI cZ cR hr6) ⟨va_cnB (host := "DivisionHall") 2 hts ggX4_leadOf_X11_inside rfl rfl rfl (hN.2.1 ("DivisionHall$Motions", 36, yX11_inside, "DivisionHall") (by decide +kernel)) (hts (.initialized RX11) (by decide +kernel)) (by decide +kernel) ⟨Nat.le_of_ble_eq_true rfl, Nat.le_of_ble_eq_true rfl⟩, hts (.static yX11_inside) (by decide +kernel), trivial⟩ rfl hl.1 rfl (Nat.le_of_ble_eq_true rfl) dX4_leadOf_17) (fun H locs hP hD hS => ?_)
    have hP : va_P D vwCl (wd_X4_leadOf cI cZ cR a_t a_t_first a_t_rank a_t_told a_t_beaten a_t_leads a_t_order t_count t_leads_r t_order_r) H := hP
    have hD : va_D A (wd_X4_leadOf cI cZ cR a_t a_t_first a_t_rank a_t_told a_t_beaten a_t_leads a_t_order t_count t_leads_r t_order_r) := hD
    refine lv_if_eq (tgt := 37) hx hb dX4_leadOf_20 (by decide) (fun c7 => ?_) (fun c7 => ?_)
    · have hf := ipos c7 hf
      refine lv_iconst (v := (-1 : Int32)) hx hb dX4_leadOf_37 (by decide) ?_
      cases hf
      exact reti X hK hP hD hS dX4_leadOf_38
    · have hf := ineg c7 hf
      refine lv_aload_n hx hb dX4_leadOf_23 rfl (lv_at hl 0 rfl) ?_
      refine va_get (D := D) (ci := 4) (v := .ref a_t_leads) (C := RX4) (T := TX4) (N := 7) hx hb hts in_X4_leadOf_X4 hown hK hP 0 rfl rfl 4 (by decide) (hts (.fieldLink RX4 24 "DivisionHall$Motions" "leads" "[I") (by decide +kernel)) (fun _ h9 => h9) rfl dX4_leadOf_24 ?_
      refine lv_aload_n hx hb dX4_leadOf_27 rfl (lv_at hl 0 rfl) ?_
      refine va_get (D := D) (ci := 4) (v := .ref a_t_order) (C := RX4) (T := TX4) (N := 7) hx hb hts in_X4_leadOf_X4 hown hK hP 0 rfl rfl 5 (by decide) (hts (.fieldLink RX4 27 "DivisionHall$Motions" "order" "[I") (by decide +kernel)) (fun _ h9 => h9) rfl dX4_leadOf_28 ?_
      refine lv_iload_n hx hb dX4_leadOf_31 rfl (lv_at hl 1 rfl) ?_
      obtain ⟨hi8, hf⟩ := gin_s hf
      refine va_iald hx hb hK hP 2 0 rfl rfl hi8 dX4_leadOf_32 ?_
      obtain ⟨hi9, hf⟩ := gin_s hf
      refine va_iald hx hb hK hP 1 0 rfl rfl hi9 dX4_leadOf_33 ?_
      refine lv_goto (tgt := 38) hx hb dX4_leadOf_34 (by decide) ?_
      cases hf
      exact reti X hK hP hD hS dX4_leadOf_38

abbrev wd_X4_foreseen (cI cZ cR : ClassId) (a_t a_t_first a_t_rank a_t_told a_t_beaten a_t_leads a_t_order : Nat) (t_count : Int32) (t_beaten_r : Nat → Int32) (t_leads_r : Nat → Int32) (t_order_r : Nat → Int32) : va_W := [(a_t, oB 4 [.ref a_t_first, .ref a_t_rank, .ref a_t_told, .ref a_t_beaten, .ref a_t_leads, .ref a_t_order, .int t_count]), (a_t_beaten, aI cI 6 t_beaten_r), (a_t_leads, aI cI 6 t_leads_r), (a_t_order, aI cI 6 t_order_r)]
def F_X4_foreseen_41 (t_count : Int32) (t_beaten_r : Nat → Int32) (t_order_r : Nat → Int32) (rec28 : Int32 → (Nat → Int32) → Option (Int32 × (Nat → Int32))) : Nat → Int32 → Int32 → Int32 → (Nat → Int32) → Option (Int32 × (Nat → Int32))
  | 0, _, _, _, _ => none
  | n + 1, x1, x2, x3, t_leads_r => (if (6 : Int32) ≤ x3 then (rec28 (x1 + (-1 : Int32)) t_leads_r) else (gin x3 6 ((F_X4_beats x2 (t_leads_r (x3).toNatClampNeg) t_beaten_r).bind (fun r10 => (if r10 = 0 then (F_X4_foreseen_41 t_count t_beaten_r t_order_r rec28 n x1 x2 (x3 + (1 : Int32)) t_leads_r) else (gin x3 6 (F_X4_foreseen_41 t_count t_beaten_r t_order_r rec28 n x1 x2 (x3 + (1 : Int32)) (upd t_leads_r (x3).toNatClampNeg x2))))))))
def F_X4_foreseen_28 (t_count : Int32) (t_beaten_r : Nat → Int32) (t_order_r : Nat → Int32) : Nat → Int32 → (Nat → Int32) → Option (Int32 × (Nat → Int32))
  | 0, _, _ => none
  | n + 1, x1, t_leads_r => (if x1 < (1 : Int32) then ((F_X4_leadOf (0 : Int32) t_leads_r t_order_r).bind (fun r4 => (some (r4, t_leads_r)))) else ((F_X4_leadOf x1 t_leads_r t_order_r).bind (fun r6 => (F_X4_foreseen_41 t_count t_beaten_r t_order_r (F_X4_foreseen_28 t_count t_beaten_r t_order_r n) FU x1 r6 (0 : Int32) t_leads_r))))
def F_X4_foreseen_2 (t_count : Int32) (t_beaten_r : Nat → Int32) (t_order_r : Nat → Int32) : Nat → Int32 → (Nat → Int32) → Option (Int32 × (Nat → Int32))
  | 0, _, _ => none
  | n + 1, x1, t_leads_r => (if (6 : Int32) ≤ x1 then (F_X4_foreseen_28 t_count t_beaten_r t_order_r FU (t_count - (1 : Int32)) t_leads_r) else (gin x1 6 (F_X4_foreseen_2 t_count t_beaten_r t_order_r n (x1 + (1 : Int32)) (upd t_leads_r (x1).toNatClampNeg x1))))
def F_X4_foreseen (t_count : Int32) (t_beaten_r : Nat → Int32) (t_leads_r : Nat → Int32) (t_order_r : Nat → Int32) : Option (Int32 × (Nat → Int32)) := (F_X4_foreseen_2 t_count t_beaten_r t_order_r FU (0 : Int32) t_leads_r)
set_option maxRecDepth 100000 in
theorem in_X4_foreseen_X4 : ∀ w ∈ wsX40, w ∈ wsX4_foreseen := by decide +kernel
set_option maxHeartbeats 4000000 in
set_option maxRecDepth 100000 in
theorem w_X4_foreseen_41 {p : Program} {l : Launch} {e : Env} {s : State} {m : MethodId} {args : Array Value} {below : List Frame} {meth : Method} {c : Code} {D : va_G} {cI cZ cR : ClassId} {A : Nat → Prop} {a_t a_t_first a_t_rank a_t_told a_t_beaten a_t_leads a_t_order : Nat} {t_count : Int32} {t_beaten_r : Nat → Int32} {t_order_r : Nat → Int32} {rec28 : Int32 → (Nat → Int32) → Option (Int32 × (Nat → Int32))} {out : Int32 × (Nat → Int32)} (X : cx p s m args meth c cX4_foreseen 4 (some .int) RX4 wsX4_foreseen) (hK : va_K D vwCl (ty3 cI cZ cR) s) (hA : ∀ q, s.heap.size ≤ q → A q) (hrec28 : ∀ (x1 : Int32) (t_leads_r : Nat → Int32), rec28 x1 t_leads_r = some out → ∀ (H : Heap) (locs : List Loc), va_P D vwCl (wd_X4_foreseen cI cZ cR a_t a_t_first a_t_rank a_t_told a_t_beaten a_t_leads a_t_order t_count t_beaten_r t_leads_r t_order_r) H → va_D A (wd_X4_foreseen cI cZ cR a_t a_t_first a_t_rank a_t_told a_t_beaten a_t_leads a_t_order t_count t_beaten_r t_leads_r t_order_r) → va_S A s.heap H locs → ∀ (ls : Array Slot), lv_has ls 4 [(0, .ref a_t), (1, .int x1)] → W p l e (headSpec wsX4_foreseen ({ frames := 2, cells := 0, slots := 0, locals := 43 } : Room)).room s m args below meth c H locs 0 0 (MQ below (qi D cI cZ cR A (out.1) (wd_X4_foreseen cI cZ cR a_t a_t_first a_t_rank a_t_told a_t_beaten a_t_leads a_t_order t_count t_beaten_r (out.2) t_order_r)) args s 0 0 A) (F0 m 28 ls [])) : ∀ (n : Nat) (x1 : Int32) (x2 : Int32) (x3 : Int32) (t_leads_r : Nat → Int32), F_X4_foreseen_41 t_count t_beaten_r t_order_r rec28 n x1 x2 x3 t_leads_r = some out → ∀ (H : Heap) (locs : List Loc), va_P D vwCl (wd_X4_foreseen cI cZ cR a_t a_t_first a_t_rank a_t_told a_t_beaten a_t_leads a_t_order t_count t_beaten_r t_leads_r t_order_r) H → va_D A (wd_X4_foreseen cI cZ cR a_t a_t_first a_t_rank a_t_told a_t_beaten a_t_leads a_t_order t_count t_beaten_r t_leads_r t_order_r) → va_S A s.heap H locs → ∀ (ls : Array Slot), lv_has ls 4 [(0, .ref a_t), (1, .int x1), (2, .int x2), (3, .int x3)] → W p l e (headSpec wsX4_foreseen ({ frames := 2, cells := 0, slots := 0, locals := 43 } : Room)).room s m args below meth c H locs 0 0 (MQ below (qi D cI cZ cR A (out.1) (wd_X4_foreseen cI cZ cR a_t a_t_first a_t_rank a_t_told a_t_beaten a_t_leads a_t_order t_count t_beaten_r (out.2) t_order_r)) args s 0 0 A) (F0 m 41 ls []) := by
  obtain ⟨hx, hb, hml, hr, hown, hts, hlocks, hN⟩ := id X
  intro n
  induction n with
  | zero =>
    intro x1 x2 x3 t_leads_r hf
    cases (show (none : Option (Int32 × (Nat → Int32))) = some out from hf)
  | succ n ih =>
    intro x1 x2 x3 t_leads_r hf H locs hP hD hS ls hl
    rw [F_X4_foreseen_41] at hf
    refine lv_iload_n hx hb dX4_foreseen_41 rfl (lv_at hl 3 rfl) ?_
    refine lv_bipush (v := (6 : Int32)) hx hb dX4_foreseen_42 (by decide) ?_
    refine lv_icmp_ge (tgt := 74) hx hb dX4_foreseen_44 (by decide) (fun c8 => ?_) (fun c8 => ?_)
    · have hf := ipos c8 hf
      refine lv_iinc (v := (x1 + (-1 : Int32))) (lv' := [(1, .int (x1 + (-1 : Int32))), (0, .ref a_t), (2, .int x2), (3, .int x3)]) hx hb dX4_foreseen_74 hl (k := 1) rfl rfl (by decide) rfl (fun ls hl => ?_)
      refine lv_goto (tgt := 28) hx hb dX4_foreseen_77 (by decide) ?_
      exact hrec28 (x1 + (-1 : Int32)) t_leads_r hf _ _ hP hD hS _ (lv_sub hl [1, 0] rfl)
    · have hf := ineg c8 hf
      refine lv_aload_n hx hb dX4_foreseen_47 rfl (lv_at hl 0 rfl) ?_
      refine lv_iload_n hx hb dX4_foreseen_48 rfl (lv_at hl 2 rfl) ?_
      refine lv_aload_n hx hb dX4_foreseen_49 rfl (lv_at hl 0 rfl) ?_
      refine va_get (D := D) (ci := 4) (v := .ref a_t_leads) (C := RX4) (T := TX4) (N := 7) hx hb hts in_X4_foreseen_X4 hown hK hP 0 rfl rfl 4 (by decide) (hts (.fieldLink RX4 24 "DivisionHall$Motions" "leads" "[I") (by decide +kernel)) (fun _ h9 => h9) rfl dX4_foreseen_50 ?_
      refine lv_iload_n hx hb dX4_foreseen_53 rfl (lv_at hl 3 rfl) ?_
      obtain ⟨hi9, hf⟩ := gin_s hf
      refine va_iald hx hb hK hP 2 0 rfl rfl hi9 dX4_foreseen_54 ?_
      obtain ⟨r10, hr11, hf⟩ := bnd hf
      refine wcalli (D := D) (cI := cI) (cZ := cZ) (cR := cR) (wc := (wd_X4_beats cI cZ cR a_t a_t_first a_t_rank a_t_told a_t_beaten a_t_leads a_t_order t_count t_beaten_r)) (w' := (wd_X4_beats cI cZ cR a_t a_t_first a_t_rank a_t_told a_t_beaten a_t_leads a_t_order t_count t_beaten_r)) [0, 1] hP hD hS hA rfl rfl rfl (rnV (As := [.int x2, .int (t_leads_r (x3).toNatClampNeg)]) (ci := 4) (q0 := 0) X [0, 1] hK hP hD rfl rfl rfl rfl (c_X4_beats l D cI cZ cR hr11) (cwV 2 hts gX4_foreseen_X4_beats rfl rfl rfl (by decide +kernel) ⟨Nat.le_of_ble_eq_true rfl, Nat.le_of_ble_eq_true rfl⟩) rfl hl.1 rfl (Nat.le_of_ble_eq_true rfl) dX4_foreseen_55) (fun H locs hP hD hS => ?_)
      have hP : va_P D vwCl (wd_X4_foreseen cI cZ cR a_t a_t_first a_t_rank a_t_told a_t_beaten a_t_leads a_t_order t_count t_beaten_r t_leads_r t_order_r) H := hP
      have hD : va_D A (wd_X4_foreseen cI cZ cR a_t a_t_first a_t_rank a_t_told a_t_beaten a_t_leads a_t_order t_count t_beaten_r t_leads_r t_order_r) := hD
      refine lv_if_eq (tgt := 68) hx hb dX4_foreseen_58 (by decide) (fun c12 => ?_) (fun c12 => ?_)
      · have hf := ipos c12 hf
        refine lv_iinc (v := (x3 + (1 : Int32))) (lv' := [(3, .int (x3 + (1 : Int32))), (0, .ref a_t), (1, .int x1), (2, .int x2)]) hx hb dX4_foreseen_68 hl (k := 3) rfl rfl (by decide) rfl (fun ls hl => ?_)
        refine lv_goto (tgt := 41) hx hb dX4_foreseen_71 (by decide) ?_
        exact ih x1 x2 (x3 + (1 : Int32)) t_leads_r hf _ _ hP hD hS _ (lv_sub hl [1, 2, 3, 0] rfl)
      · have hf := ineg c12 hf
        refine lv_aload_n hx hb dX4_foreseen_61 rfl (lv_at hl 0 rfl) ?_
        refine va_get (D := D) (ci := 4) (v := .ref a_t_leads) (C := RX4) (T := TX4) (N := 7) hx hb hts in_X4_foreseen_X4 hown hK hP 0 rfl rfl 4 (by decide) (hts (.fieldLink RX4 24 "DivisionHall$Motions" "leads" "[I") (by decide +kernel)) (fun _ h9 => h9) rfl dX4_foreseen_62 ?_
        refine lv_iload_n hx hb dX4_foreseen_65 rfl (lv_at hl 3 rfl) ?_
        refine lv_iload_n hx hb dX4_foreseen_66 rfl (lv_at hl 2 rfl) ?_
        obtain ⟨hi13, hf⟩ := gin_s hf
        refine va_iast hx hb hK hP hD hS 2 0 rfl rfl hi13 dX4_foreseen_67 (fun H locs hP hD hS => ?_)
        have hP : va_P D vwCl (wd_X4_foreseen cI cZ cR a_t a_t_first a_t_rank a_t_told a_t_beaten a_t_leads a_t_order t_count t_beaten_r (upd t_leads_r (x3).toNatClampNeg x2) t_order_r) H := hP
        have hD : va_D A (wd_X4_foreseen cI cZ cR a_t a_t_first a_t_rank a_t_told a_t_beaten a_t_leads a_t_order t_count t_beaten_r (upd t_leads_r (x3).toNatClampNeg x2) t_order_r) := hD
        refine lv_iinc (v := (x3 + (1 : Int32))) (lv' := [(3, .int (x3 + (1 : Int32))), (0, .ref a_t), (1, .int x1), (2, .int x2)]) hx hb dX4_foreseen_68 hl (k := 3) rfl rfl (by decide) rfl (fun ls hl => ?_)
        refine lv_goto (tgt := 41) hx hb dX4_foreseen_71 (by decide) ?_
        exact ih x1 x2 (x3 + (1 : Int32)) (upd t_leads_r (x3).toNatClampNeg x2) hf _ _ hP hD hS _ (lv_sub hl [1, 2, 3, 0] rfl)
set_option maxHeartbeats 4000000 in
set_option maxRecDepth 100000 in
theorem w_X4_foreseen_28 {p : Program} {l : Launch} {e : Env} {s : State} {m : MethodId} {args : Array Value} {below : List Frame} {meth : Method} {c : Code} {D : va_G} {cI cZ cR : ClassId} {A : Nat → Prop} {a_t a_t_first a_t_rank a_t_told a_t_beaten a_t_leads a_t_order : Nat} {t_count : Int32} {t_beaten_r : Nat → Int32} {t_order_r : Nat → Int32} {out : Int32 × (Nat → Int32)} (X : cx p s m args meth c cX4_foreseen 4 (some .int) RX4 wsX4_foreseen) (hK : va_K D vwCl (ty3 cI cZ cR) s) (hA : ∀ q, s.heap.size ≤ q → A q) : ∀ (n : Nat) (x1 : Int32) (t_leads_r : Nat → Int32), F_X4_foreseen_28 t_count t_beaten_r t_order_r n x1 t_leads_r = some out → ∀ (H : Heap) (locs : List Loc), va_P D vwCl (wd_X4_foreseen cI cZ cR a_t a_t_first a_t_rank a_t_told a_t_beaten a_t_leads a_t_order t_count t_beaten_r t_leads_r t_order_r) H → va_D A (wd_X4_foreseen cI cZ cR a_t a_t_first a_t_rank a_t_told a_t_beaten a_t_leads a_t_order t_count t_beaten_r t_leads_r t_order_r) → va_S A s.heap H locs → ∀ (ls : Array Slot), lv_has ls 4 [(0, .ref a_t), (1, .int x1)] → W p l e (headSpec wsX4_foreseen ({ frames := 2, cells := 0, slots := 0, locals := 43 } : Room)).room s m args below meth c H locs 0 0 (MQ below (qi D cI cZ cR A (out.1) (wd_X4_foreseen cI cZ cR a_t a_t_first a_t_rank a_t_told a_t_beaten a_t_leads a_t_order t_count t_beaten_r (out.2) t_order_r)) args s 0 0 A) (F0 m 28 ls []) := by
  obtain ⟨hx, hb, hml, hr, hown, hts, hlocks, hN⟩ := id X
  intro n
  induction n with
  | zero =>
    intro x1 t_leads_r hf
    cases (show (none : Option (Int32 × (Nat → Int32))) = some out from hf)
  | succ n ih =>
    intro x1 t_leads_r hf H locs hP hD hS ls hl
    rw [F_X4_foreseen_28] at hf
    refine lv_iload_n hx hb dX4_foreseen_28 rfl (lv_at hl 1 rfl) ?_
    refine lv_iconst (v := (1 : Int32)) hx hb dX4_foreseen_29 (by decide) ?_
    refine lv_icmp_lt (tgt := 80) hx hb dX4_foreseen_30 (by decide) (fun c3 => ?_) (fun c3 => ?_)
    · have hf := ipos c3 hf
      refine lv_aload_n hx hb dX4_foreseen_80 rfl (lv_at hl 0 rfl) ?_
      refine lv_iconst (v := (0 : Int32)) hx hb dX4_foreseen_81 (by decide) ?_
      obtain ⟨r4, hr5, hf⟩ := bnd hf
      refine wcalli (D := D) (cI := cI) (cZ := cZ) (cR := cR) (wc := (wd_X4_leadOf cI cZ cR a_t a_t_first a_t_rank a_t_told a_t_beaten a_t_leads a_t_order t_count t_leads_r t_order_r)) (w' := (wd_X4_leadOf cI cZ cR a_t a_t_first a_t_rank a_t_told a_t_beaten a_t_leads a_t_order t_count t_leads_r t_order_r)) [0, 2, 3] hP hD hS hA rfl rfl rfl (rnV (As := [.int (0 : Int32)]) (ci := 4) (q0 := 0) X [0, 2, 3] hK hP hD rfl rfl rfl rfl (c_X4_leadOf l D cI cZ cR hr5) (cwV 1 hts gX4_foreseen_X4_leadOf rfl rfl rfl (by decide +kernel) ⟨Nat.le_of_ble_eq_true rfl, Nat.le_of_ble_eq_true rfl⟩) rfl hl.1 rfl (Nat.le_of_ble_eq_true rfl) dX4_foreseen_82) (fun H locs hP hD hS => ?_)
      have hP : va_P D vwCl (wd_X4_foreseen cI cZ cR a_t a_t_first a_t_rank a_t_told a_t_beaten a_t_leads a_t_order t_count t_beaten_r t_leads_r t_order_r) H := hP
      have hD : va_D A (wd_X4_foreseen cI cZ cR a_t a_t_first a_t_rank a_t_told a_t_beaten a_t_leads a_t_order t_count t_beaten_r t_leads_r t_order_r) := hD
      cases hf
      exact reti X hK hP hD hS dX4_foreseen_85
    · have hf := ineg c3 hf
      refine lv_aload_n hx hb dX4_foreseen_33 rfl (lv_at hl 0 rfl) ?_
      refine lv_iload_n hx hb dX4_foreseen_34 rfl (lv_at hl 1 rfl) ?_
      obtain ⟨r6, hr7, hf⟩ := bnd hf
      refine wcalli (D := D) (cI := cI) (cZ := cZ) (cR := cR) (wc := (wd_X4_leadOf cI cZ cR a_t a_t_first a_t_rank a_t_told a_t_beaten a_t_leads a_t_order t_count t_leads_r t_order_r)) (w' := (wd_X4_leadOf cI cZ cR a_t a_t_first a_t_rank a_t_told a_t_beaten a_t_leads a_t_order t_count t_leads_r t_order_r)) [0, 2, 3] hP hD hS hA rfl rfl rfl (rnV (As := [.int x1]) (ci := 4) (q0 := 0) X [0, 2, 3] hK hP hD rfl rfl rfl rfl (c_X4_leadOf l D cI cZ cR hr7) (cwV 1 hts gX4_foreseen_X4_leadOf rfl rfl rfl (by decide +kernel) ⟨Nat.le_of_ble_eq_true rfl, Nat.le_of_ble_eq_true rfl⟩) rfl hl.1 rfl (Nat.le_of_ble_eq_true rfl) dX4_foreseen_35) (fun H locs hP hD hS => ?_)
      have hP : va_P D vwCl (wd_X4_foreseen cI cZ cR a_t a_t_first a_t_rank a_t_told a_t_beaten a_t_leads a_t_order t_count t_beaten_r t_leads_r t_order_r) H := hP
      have hD : va_D A (wd_X4_foreseen cI cZ cR a_t a_t_first a_t_rank a_t_told a_t_beaten a_t_leads a_t_order t_count t_beaten_r t_leads_r t_order_r) := hD
      refine lv_istore_n (lv' := [(2, .int r6), (0, .ref a_t), (1, .int x1)]) hx hb dX4_foreseen_38 rfl hl (by decide) rfl (fun ls hl => ?_)
      refine lv_iconst (v := (0 : Int32)) hx hb dX4_foreseen_39 (by decide) ?_
      refine lv_istore_n (lv' := [(3, .int (0 : Int32)), (2, .int r6), (0, .ref a_t), (1, .int x1)]) hx hb dX4_foreseen_40 rfl hl (by decide) rfl (fun ls hl => ?_)
      exact w_X4_foreseen_41 X hK hA ih _ x1 r6 (0 : Int32) t_leads_r hf _ _ hP hD hS _ (lv_sub hl [2, 3, 1, 0] rfl)
set_option maxHeartbeats 4000000 in
set_option maxRecDepth 100000 in
theorem w_X4_foreseen_2 {p : Program} {l : Launch} {e : Env} {s : State} {m : MethodId} {args : Array Value} {below : List Frame} {meth : Method} {c : Code} {D : va_G} {cI cZ cR : ClassId} {A : Nat → Prop} {a_t a_t_first a_t_rank a_t_told a_t_beaten a_t_leads a_t_order : Nat} {t_count : Int32} {t_beaten_r : Nat → Int32} {t_order_r : Nat → Int32} {out : Int32 × (Nat → Int32)} (X : cx p s m args meth c cX4_foreseen 4 (some .int) RX4 wsX4_foreseen) (hK : va_K D vwCl (ty3 cI cZ cR) s) (hA : ∀ q, s.heap.size ≤ q → A q) : ∀ (n : Nat) (x1 : Int32) (t_leads_r : Nat → Int32), F_X4_foreseen_2 t_count t_beaten_r t_order_r n x1 t_leads_r = some out → ∀ (H : Heap) (locs : List Loc), va_P D vwCl (wd_X4_foreseen cI cZ cR a_t a_t_first a_t_rank a_t_told a_t_beaten a_t_leads a_t_order t_count t_beaten_r t_leads_r t_order_r) H → va_D A (wd_X4_foreseen cI cZ cR a_t a_t_first a_t_rank a_t_told a_t_beaten a_t_leads a_t_order t_count t_beaten_r t_leads_r t_order_r) → va_S A s.heap H locs → ∀ (ls : Array Slot), lv_has ls 4 [(0, .ref a_t), (1, .int x1)] → W p l e (headSpec wsX4_foreseen ({ frames := 2, cells := 0, slots := 0, locals := 43 } : Room)).room s m args below meth c H locs 0 0 (MQ below (qi D cI cZ cR A (out.1) (wd_X4_foreseen cI cZ cR a_t a_t_first a_t_rank a_t_told a_t_beaten a_t_leads a_t_order t_count t_beaten_r (out.2) t_order_r)) args s 0 0 A) (F0 m 2 ls []) := by
  obtain ⟨hx, hb, hml, hr, hown, hts, hlocks, hN⟩ := id X
  intro n
  induction n with
  | zero =>
    intro x1 t_leads_r hf
    cases (show (none : Option (Int32 × (Nat → Int32))) = some out from hf)
  | succ n ih =>
    intro x1 t_leads_r hf H locs hP hD hS ls hl
    rw [F_X4_foreseen_2] at hf
    refine lv_iload_n hx hb dX4_foreseen_2 rfl (lv_at hl 1 rfl) ?_
    refine lv_bipush (v := (6 : Int32)) hx hb dX4_foreseen_3 (by decide) ?_
    refine lv_icmp_ge (tgt := 21) hx hb dX4_foreseen_5 (by decide) (fun c1 => ?_) (fun c1 => ?_)
    · have hf := ipos c1 hf
      refine lv_aload_n hx hb dX4_foreseen_21 rfl (lv_at hl 0 rfl) ?_
      refine va_get (D := D) (ci := 4) (v := .int t_count) (C := RX4) (T := TX4) (N := 7) hx hb hts in_X4_foreseen_X4 hown hK hP 0 rfl rfl 6 (by decide) (hts (.fieldLink RX4 65 "DivisionHall$Motions" "count" "I") (by decide +kernel)) (fun _ h9 => h9) rfl dX4_foreseen_22 ?_
      refine lv_iconst (v := (1 : Int32)) hx hb dX4_foreseen_25 (by decide) ?_
      refine lv_isub hx hb dX4_foreseen_26 ?_
      refine lv_istore_n (lv' := [(1, .int (t_count - (1 : Int32))), (0, .ref a_t)]) hx hb dX4_foreseen_27 rfl hl (by decide) rfl (fun ls hl => ?_)
      exact w_X4_foreseen_28 X hK hA _ (t_count - (1 : Int32)) t_leads_r hf _ _ hP hD hS _ (lv_sub hl [1, 0] rfl)
    · have hf := ineg c1 hf
      refine lv_aload_n hx hb dX4_foreseen_8 rfl (lv_at hl 0 rfl) ?_
      refine va_get (D := D) (ci := 4) (v := .ref a_t_leads) (C := RX4) (T := TX4) (N := 7) hx hb hts in_X4_foreseen_X4 hown hK hP 0 rfl rfl 4 (by decide) (hts (.fieldLink RX4 24 "DivisionHall$Motions" "leads" "[I") (by decide +kernel)) (fun _ h9 => h9) rfl dX4_foreseen_9 ?_
      refine lv_iload_n hx hb dX4_foreseen_12 rfl (lv_at hl 1 rfl) ?_
      refine lv_iload_n hx hb dX4_foreseen_13 rfl (lv_at hl 1 rfl) ?_
      obtain ⟨hi2, hf⟩ := gin_s hf
      refine va_iast hx hb hK hP hD hS 2 0 rfl rfl hi2 dX4_foreseen_14 (fun H locs hP hD hS => ?_)
      have hP : va_P D vwCl (wd_X4_foreseen cI cZ cR a_t a_t_first a_t_rank a_t_told a_t_beaten a_t_leads a_t_order t_count t_beaten_r (upd t_leads_r (x1).toNatClampNeg x1) t_order_r) H := hP
      have hD : va_D A (wd_X4_foreseen cI cZ cR a_t a_t_first a_t_rank a_t_told a_t_beaten a_t_leads a_t_order t_count t_beaten_r (upd t_leads_r (x1).toNatClampNeg x1) t_order_r) := hD
      refine lv_iinc (v := (x1 + (1 : Int32))) (lv' := [(1, .int (x1 + (1 : Int32))), (0, .ref a_t)]) hx hb dX4_foreseen_15 hl (k := 1) rfl rfl (by decide) rfl (fun ls hl => ?_)
      refine lv_goto (tgt := 2) hx hb dX4_foreseen_18 (by decide) ?_
      exact ih (x1 + (1 : Int32)) (upd t_leads_r (x1).toNatClampNeg x1) hf _ _ hP hD hS _ (lv_sub hl [1, 0] rfl)
set_option maxHeartbeats 4000000 in
set_option maxRecDepth 100000 in
theorem c_X4_foreseen (l : Launch) (D : va_G) (cI cZ cR : ClassId) {a_t a_t_first a_t_rank a_t_told a_t_beaten a_t_leads a_t_order : Nat} {t_count : Int32} {t_beaten_r : Nat → Int32} {t_leads_r : Nat → Int32} {t_order_r : Nat → Int32} {sz : Nat} {out : Int32 × (Nat → Int32)} (hf : F_X4_foreseen t_count t_beaten_r t_leads_r t_order_r = some out) : CI l yX4_foreseen wsX4_foreseen ({ frames := 2, cells := 0, slots := 0, locals := 43 } : Room) D cI cZ cR [.ref a_t] (wd_X4_foreseen cI cZ cR a_t a_t_first a_t_rank a_t_told a_t_beaten a_t_leads a_t_order t_count t_beaten_r t_leads_r t_order_r) sz (out.1) (wd_X4_foreseen cI cZ cR a_t a_t_first a_t_rank a_t_told a_t_beaten a_t_leads a_t_order t_count t_beaten_r (out.2) t_order_r) := by
  refine met_of (Qf := fun A => qi D cI cZ cR A (out.1) (wd_X4_foreseen cI cZ cR a_t a_t_first a_t_rank a_t_told a_t_beaten a_t_leads a_t_order t_count t_beaten_r (out.2) t_order_r)) RX4 (by decide +kernel) rfl rfl (Nat.le_of_ble_eq_true rfl) ?_
  intro p e s m below meth c A X hK hA hP hD hS ls hl
  have hl : lv_has ls 4 [(0, .ref a_t)] := hl
  obtain ⟨hx, hb, hml, hr, hown, hts, hlocks, hN⟩ := id X
  unfold F_X4_foreseen at hf
  refine lv_iconst (v := (0 : Int32)) hx hb dX4_foreseen_0 (by decide) ?_
  refine lv_istore_n (lv' := [(1, .int (0 : Int32)), (0, .ref a_t)]) hx hb dX4_foreseen_1 rfl hl (by decide) rfl (fun ls hl => ?_)
  exact w_X4_foreseen_2 X hK hA _ (0 : Int32) t_leads_r hf _ _ hP hD hS _ (lv_sub hl [1, 0] rfl)

abbrev wd_X4_sincere (cI cZ cR : ClassId) (a_t a_t_first a_t_rank a_t_told a_t_beaten a_t_leads a_t_order : Nat) (t_count : Int32) (t_beaten_r : Nat → Int32) (t_order_r : Nat → Int32) : va_W := [(a_t, oB 4 [.ref a_t_first, .ref a_t_rank, .ref a_t_told, .ref a_t_beaten, .ref a_t_leads, .ref a_t_order, .int t_count]), (a_t_beaten, aI cI 6 t_beaten_r), (a_t_order, aI cI 6 t_order_r)]
def F_X4_sincere_9 (t_count : Int32) (t_beaten_r : Nat → Int32) (t_order_r : Nat → Int32) : Nat → Int32 → Int32 → Option (Int32)
  | 0, _, _ => none
  | n + 1, x1, x2 => (if t_count ≤ x2 then (some x1) else (if (6 : Int32) ≤ x2 then (some x1) else (gin x2 6 ((F_X4_beats (t_order_r (x2).toNatClampNeg) x1 t_beaten_r).bind (fun r5 => (if r5 = 0 then (F_X4_sincere_9 t_count t_beaten_r t_order_r n x1 (x2 + (1 : Int32))) else (gin x2 6 (F_X4_sincere_9 t_count t_beaten_r t_order_r n (t_order_r (x2).toNatClampNeg) (x2 + (1 : Int32))))))))))
def F_X4_sincere (t_count : Int32) (t_beaten_r : Nat → Int32) (t_order_r : Nat → Int32) : Option (Int32) := (gin (0 : Int32) 6 (F_X4_sincere_9 t_count t_beaten_r t_order_r FU (t_order_r ((0 : Int32)).toNatClampNeg) (1 : Int32)))
set_option maxRecDepth 100000 in
theorem in_X4_sincere_X4 : ∀ w ∈ wsX40, w ∈ wsX4_sincere := by decide +kernel
set_option maxHeartbeats 4000000 in
set_option maxRecDepth 100000 in
theorem w_X4_sincere_9 {p : Program} {l : Launch} {e : Env} {s : State} {m : MethodId} {args : Array Value} {below : List Frame} {meth : Method} {c : Code} {D : va_G} {cI cZ cR : ClassId} {A : Nat → Prop} {a_t a_t_first a_t_rank a_t_told a_t_beaten a_t_leads a_t_order : Nat} {t_count : Int32} {t_beaten_r : Nat → Int32} {t_order_r : Nat → Int32} {out : Int32} (X : cx p s m args meth c cX4_sincere 3 (some .int) RX4 wsX4_sincere) (hK : va_K D vwCl (ty3 cI cZ cR) s) (hA : ∀ q, s.heap.size ≤ q → A q) : ∀ (n : Nat) (x1 : Int32) (x2 : Int32), F_X4_sincere_9 t_count t_beaten_r t_order_r n x1 x2 = some out → ∀ (H : Heap) (locs : List Loc), va_P D vwCl (wd_X4_sincere cI cZ cR a_t a_t_first a_t_rank a_t_told a_t_beaten a_t_leads a_t_order t_count t_beaten_r t_order_r) H → va_D A (wd_X4_sincere cI cZ cR a_t a_t_first a_t_rank a_t_told a_t_beaten a_t_leads a_t_order t_count t_beaten_r t_order_r) → va_S A s.heap H locs → ∀ (ls : Array Slot), lv_has ls 3 [(0, .ref a_t), (1, .int x1), (2, .int x2)] → W p l e (headSpec wsX4_sincere ({ frames := 2, cells := 0, slots := 0, locals := 43 } : Room)).room s m args below meth c H locs 0 0 (MQ below (qi D cI cZ cR A (out) (wd_X4_sincere cI cZ cR a_t a_t_first a_t_rank a_t_told a_t_beaten a_t_leads a_t_order t_count t_beaten_r t_order_r)) args s 0 0 A) (F0 m 9 ls []) := by
  obtain ⟨hx, hb, hml, hr, hown, hts, hlocks, hN⟩ := id X
  intro n
  induction n with
  | zero =>
    intro x1 x2 hf
    cases (show (none : Option (Int32)) = some out from hf)
  | succ n ih =>
    intro x1 x2 hf H locs hP hD hS ls hl
    rw [F_X4_sincere_9] at hf
    refine lv_iload_n hx hb dX4_sincere_9 rfl (lv_at hl 2 rfl) ?_
    refine lv_aload_n hx hb dX4_sincere_10 rfl (lv_at hl 0 rfl) ?_
    refine va_get (D := D) (ci := 4) (v := .int t_count) (C := RX4) (T := TX4) (N := 7) hx hb hts in_X4_sincere_X4 hown hK hP 0 rfl rfl 6 (by decide) (hts (.fieldLink RX4 65 "DivisionHall$Motions" "count" "I") (by decide +kernel)) (fun _ h9 => h9) rfl dX4_sincere_11 ?_
    refine lv_icmp_ge (tgt := 50) hx hb dX4_sincere_14 (by decide) (fun c2 => ?_) (fun c2 => ?_)
    · have hf := ipos c2 hf
      refine lv_iload_n hx hb dX4_sincere_50 rfl (lv_at hl 1 rfl) ?_
      cases hf
      exact reti X hK hP hD hS dX4_sincere_51
    · have hf := ineg c2 hf
      refine lv_iload_n hx hb dX4_sincere_17 rfl (lv_at hl 2 rfl) ?_
      refine lv_bipush (v := (6 : Int32)) hx hb dX4_sincere_18 (by decide) ?_
      refine lv_icmp_ge (tgt := 50) hx hb dX4_sincere_20 (by decide) (fun c3 => ?_) (fun c3 => ?_)
      · have hf := ipos c3 hf
        refine lv_iload_n hx hb dX4_sincere_50 rfl (lv_at hl 1 rfl) ?_
        cases hf
        exact reti X hK hP hD hS dX4_sincere_51
      · have hf := ineg c3 hf
        refine lv_aload_n hx hb dX4_sincere_23 rfl (lv_at hl 0 rfl) ?_
        refine lv_aload_n hx hb dX4_sincere_24 rfl (lv_at hl 0 rfl) ?_
        refine va_get (D := D) (ci := 4) (v := .ref a_t_order) (C := RX4) (T := TX4) (N := 7) hx hb hts in_X4_sincere_X4 hown hK hP 0 rfl rfl 5 (by decide) (hts (.fieldLink RX4 27 "DivisionHall$Motions" "order" "[I") (by decide +kernel)) (fun _ h9 => h9) rfl dX4_sincere_25 ?_
        refine lv_iload_n hx hb dX4_sincere_28 rfl (lv_at hl 2 rfl) ?_
        obtain ⟨hi4, hf⟩ := gin_s hf
        refine va_iald hx hb hK hP 2 0 rfl rfl hi4 dX4_sincere_29 ?_
        refine lv_iload_n hx hb dX4_sincere_30 rfl (lv_at hl 1 rfl) ?_
        obtain ⟨r5, hr6, hf⟩ := bnd hf
        refine wcalli (D := D) (cI := cI) (cZ := cZ) (cR := cR) (wc := (wd_X4_beats cI cZ cR a_t a_t_first a_t_rank a_t_told a_t_beaten a_t_leads a_t_order t_count t_beaten_r)) (w' := (wd_X4_beats cI cZ cR a_t a_t_first a_t_rank a_t_told a_t_beaten a_t_leads a_t_order t_count t_beaten_r)) [0, 1] hP hD hS hA rfl rfl rfl (rnV (As := [.int (t_order_r (x2).toNatClampNeg), .int x1]) (ci := 4) (q0 := 0) X [0, 1] hK hP hD rfl rfl rfl rfl (c_X4_beats l D cI cZ cR hr6) (cwV 2 hts gX4_sincere_X4_beats rfl rfl rfl (by decide +kernel) ⟨Nat.le_of_ble_eq_true rfl, Nat.le_of_ble_eq_true rfl⟩) rfl hl.1 rfl (Nat.le_of_ble_eq_true rfl) dX4_sincere_31) (fun H locs hP hD hS => ?_)
        have hP : va_P D vwCl (wd_X4_sincere cI cZ cR a_t a_t_first a_t_rank a_t_told a_t_beaten a_t_leads a_t_order t_count t_beaten_r t_order_r) H := hP
        have hD : va_D A (wd_X4_sincere cI cZ cR a_t a_t_first a_t_rank a_t_told a_t_beaten a_t_leads a_t_order t_count t_beaten_r t_order_r) := hD
        refine lv_if_eq (tgt := 44) hx hb dX4_sincere_34 (by decide) (fun c7 => ?_) (fun c7 => ?_)
        · have hf := ipos c7 hf
          refine lv_iinc (v := (x2 + (1 : Int32))) (lv' := [(2, .int (x2 + (1 : Int32))), (0, .ref a_t), (1, .int x1)]) hx hb dX4_sincere_44 hl (k := 2) rfl rfl (by decide) rfl (fun ls hl => ?_)
          refine lv_goto (tgt := 9) hx hb dX4_sincere_47 (by decide) ?_
          exact ih x1 (x2 + (1 : Int32)) hf _ _ hP hD hS _ (lv_sub hl [1, 2, 0] rfl)
        · have hf := ineg c7 hf
          refine lv_aload_n hx hb dX4_sincere_37 rfl (lv_at hl 0 rfl) ?_
          refine va_get (D := D) (ci := 4) (v := .ref a_t_order) (C := RX4) (T := TX4) (N := 7) hx hb hts in_X4_sincere_X4 hown hK hP 0 rfl rfl 5 (by decide) (hts (.fieldLink RX4 27 "DivisionHall$Motions" "order" "[I") (by decide +kernel)) (fun _ h9 => h9) rfl dX4_sincere_38 ?_
          refine lv_iload_n hx hb dX4_sincere_41 rfl (lv_at hl 2 rfl) ?_
          obtain ⟨hi8, hf⟩ := gin_s hf
          refine va_iald hx hb hK hP 2 0 rfl rfl hi8 dX4_sincere_42 ?_
          refine lv_istore_n (lv' := [(1, .int (t_order_r (x2).toNatClampNeg)), (0, .ref a_t), (2, .int x2)]) hx hb dX4_sincere_43 rfl hl (by decide) rfl (fun ls hl => ?_)
          refine lv_iinc (v := (x2 + (1 : Int32))) (lv' := [(2, .int (x2 + (1 : Int32))), (1, .int (t_order_r (x2).toNatClampNeg)), (0, .ref a_t)]) hx hb dX4_sincere_44 hl (k := 2) rfl rfl (by decide) rfl (fun ls hl => ?_)
          refine lv_goto (tgt := 9) hx hb dX4_sincere_47 (by decide) ?_
          exact ih (t_order_r (x2).toNatClampNeg) (x2 + (1 : Int32)) hf _ _ hP hD hS _ (lv_sub hl [2, 1, 0] rfl)
set_option maxHeartbeats 4000000 in
set_option maxRecDepth 100000 in
theorem c_X4_sincere (l : Launch) (D : va_G) (cI cZ cR : ClassId) {a_t a_t_first a_t_rank a_t_told a_t_beaten a_t_leads a_t_order : Nat} {t_count : Int32} {t_beaten_r : Nat → Int32} {t_order_r : Nat → Int32} {sz : Nat} {out : Int32} (hf : F_X4_sincere t_count t_beaten_r t_order_r = some out) : CI l yX4_sincere wsX4_sincere ({ frames := 2, cells := 0, slots := 0, locals := 43 } : Room) D cI cZ cR [.ref a_t] (wd_X4_sincere cI cZ cR a_t a_t_first a_t_rank a_t_told a_t_beaten a_t_leads a_t_order t_count t_beaten_r t_order_r) sz (out) (wd_X4_sincere cI cZ cR a_t a_t_first a_t_rank a_t_told a_t_beaten a_t_leads a_t_order t_count t_beaten_r t_order_r) := by
  refine met_of (Qf := fun A => qi D cI cZ cR A (out) (wd_X4_sincere cI cZ cR a_t a_t_first a_t_rank a_t_told a_t_beaten a_t_leads a_t_order t_count t_beaten_r t_order_r)) RX4 (by decide +kernel) rfl rfl (Nat.le_of_ble_eq_true rfl) ?_
  intro p e s m below meth c A X hK hA hP hD hS ls hl
  have hl : lv_has ls 3 [(0, .ref a_t)] := hl
  obtain ⟨hx, hb, hml, hr, hown, hts, hlocks, hN⟩ := id X
  unfold F_X4_sincere at hf
  refine lv_aload_n hx hb dX4_sincere_0 rfl (lv_at hl 0 rfl) ?_
  refine va_get (D := D) (ci := 4) (v := .ref a_t_order) (C := RX4) (T := TX4) (N := 7) hx hb hts in_X4_sincere_X4 hown hK hP 0 rfl rfl 5 (by decide) (hts (.fieldLink RX4 27 "DivisionHall$Motions" "order" "[I") (by decide +kernel)) (fun _ h9 => h9) rfl dX4_sincere_1 ?_
  refine lv_iconst (v := (0 : Int32)) hx hb dX4_sincere_4 (by decide) ?_
  obtain ⟨hi1, hf⟩ := gin_s hf
  refine va_iald hx hb hK hP 2 0 rfl rfl hi1 dX4_sincere_5 ?_
  refine lv_istore_n (lv' := [(1, .int (t_order_r ((0 : Int32)).toNatClampNeg)), (0, .ref a_t)]) hx hb dX4_sincere_6 rfl hl (by decide) rfl (fun ls hl => ?_)
  refine lv_iconst (v := (1 : Int32)) hx hb dX4_sincere_7 (by decide) ?_
  refine lv_istore_n (lv' := [(2, .int (1 : Int32)), (1, .int (t_order_r ((0 : Int32)).toNatClampNeg)), (0, .ref a_t)]) hx hb dX4_sincere_8 rfl hl (by decide) rfl (fun ls hl => ?_)
  exact w_X4_sincere_9 X hK hA _ (t_order_r ((0 : Int32)).toNatClampNeg) (1 : Int32) hf _ _ hP hD hS _ (lv_sub hl [2, 1, 0] rfl)

abbrev wd_X4_outcome (cI cZ cR : ClassId) (a_t a_t_first a_t_rank a_t_told a_t_beaten a_t_leads a_t_order : Nat) (t_count : Int32) (t_beaten_r : Nat → Int32) (t_leads_r : Nat → Int32) (t_order_r : Nat → Int32) : va_W := [(a_t, oB 4 [.ref a_t_first, .ref a_t_rank, .ref a_t_told, .ref a_t_beaten, .ref a_t_leads, .ref a_t_order, .int t_count]), (a_t_beaten, aI cI 6 t_beaten_r), (a_t_leads, aI cI 6 t_leads_r), (a_t_order, aI cI 6 t_order_r)]
def F_X4_outcome (x1 : Int32) (t_count : Int32) (t_beaten_r : Nat → Int32) (t_leads_r : Nat → Int32) (t_order_r : Nat → Int32) : Option (Int32 × (Nat → Int32)) := (if x1 = 0 then ((F_X4_sincere t_count t_beaten_r t_order_r).bind (fun r2 => (some (r2, t_leads_r)))) else ((F_X4_foreseen t_count t_beaten_r t_leads_r t_order_r).bind (fun r4 => (some ((r4.1), (r4.2))))))
set_option maxHeartbeats 4000000 in
set_option maxRecDepth 100000 in
theorem c_X4_outcome (l : Launch) (D : va_G) (cI cZ cR : ClassId) {a_t a_t_first a_t_rank a_t_told a_t_beaten a_t_leads a_t_order : Nat} {t_count : Int32} {t_beaten_r : Nat → Int32} {t_leads_r : Nat → Int32} {t_order_r : Nat → Int32} {x1 : Int32} {sz : Nat} {out : Int32 × (Nat → Int32)} (hf : F_X4_outcome x1 t_count t_beaten_r t_leads_r t_order_r = some out) : CI l yX4_outcome wsX4_outcome ({ frames := 3, cells := 0, slots := 0, locals := 66 } : Room) D cI cZ cR [.ref a_t, .int x1] (wd_X4_outcome cI cZ cR a_t a_t_first a_t_rank a_t_told a_t_beaten a_t_leads a_t_order t_count t_beaten_r t_leads_r t_order_r) sz (out.1) (wd_X4_outcome cI cZ cR a_t a_t_first a_t_rank a_t_told a_t_beaten a_t_leads a_t_order t_count t_beaten_r (out.2) t_order_r) := by
  refine met_of (Qf := fun A => qi D cI cZ cR A (out.1) (wd_X4_outcome cI cZ cR a_t a_t_first a_t_rank a_t_told a_t_beaten a_t_leads a_t_order t_count t_beaten_r (out.2) t_order_r)) RX4 (by decide +kernel) rfl rfl (Nat.le_of_ble_eq_true rfl) ?_
  intro p e s m below meth c A X hK hA hP hD hS ls hl
  have hl : lv_has ls 2 [(0, .ref a_t), (1, .int x1)] := hl
  obtain ⟨hx, hb, hml, hr, hown, hts, hlocks, hN⟩ := id X
  unfold F_X4_outcome at hf
  refine lv_iload_n hx hb dX4_outcome_0 rfl (lv_at hl 1 rfl) ?_
  refine lv_if_eq (tgt := 11) hx hb dX4_outcome_1 (by decide) (fun c1 => ?_) (fun c1 => ?_)
  · have hf := ipos c1 hf
    refine lv_aload_n hx hb dX4_outcome_11 rfl (lv_at hl 0 rfl) ?_
    obtain ⟨r2, hr3, hf⟩ := bnd hf
    refine wcalli (D := D) (cI := cI) (cZ := cZ) (cR := cR) (wc := (wd_X4_sincere cI cZ cR a_t a_t_first a_t_rank a_t_told a_t_beaten a_t_leads a_t_order t_count t_beaten_r t_order_r)) (w' := (wd_X4_sincere cI cZ cR a_t a_t_first a_t_rank a_t_told a_t_beaten a_t_leads a_t_order t_count t_beaten_r t_order_r)) [0, 1, 3] hP hD hS hA rfl rfl rfl (rnV (As := []) (ci := 4) (q0 := 0) X [0, 1, 3] hK hP hD rfl rfl rfl rfl (c_X4_sincere l D cI cZ cR hr3) (cwV 0 hts gX4_outcome_X4_sincere rfl rfl rfl (by decide +kernel) ⟨Nat.le_of_ble_eq_true rfl, Nat.le_of_ble_eq_true rfl⟩) rfl hl.1 rfl (Nat.le_of_ble_eq_true rfl) dX4_outcome_12) (fun H locs hP hD hS => ?_)
    have hP : va_P D vwCl (wd_X4_outcome cI cZ cR a_t a_t_first a_t_rank a_t_told a_t_beaten a_t_leads a_t_order t_count t_beaten_r t_leads_r t_order_r) H := hP
    have hD : va_D A (wd_X4_outcome cI cZ cR a_t a_t_first a_t_rank a_t_told a_t_beaten a_t_leads a_t_order t_count t_beaten_r t_leads_r t_order_r) := hD
    cases hf
    exact reti X hK hP hD hS dX4_outcome_15
  · have hf := ineg c1 hf
    refine lv_aload_n hx hb dX4_outcome_4 rfl (lv_at hl 0 rfl) ?_
    obtain ⟨r4, hr5, hf⟩ := bnd hf
    refine wcalli (D := D) (cI := cI) (cZ := cZ) (cR := cR) (wc := (wd_X4_foreseen cI cZ cR a_t a_t_first a_t_rank a_t_told a_t_beaten a_t_leads a_t_order t_count t_beaten_r t_leads_r t_order_r)) (w' := (wd_X4_foreseen cI cZ cR a_t a_t_first a_t_rank a_t_told a_t_beaten a_t_leads a_t_order t_count t_beaten_r (r4.2) t_order_r)) [0, 1, 2, 3] hP hD hS hA rfl rfl rfl (rnV (As := []) (ci := 4) (q0 := 0) X [0, 1, 2, 3] hK hP hD rfl rfl rfl rfl (c_X4_foreseen l D cI cZ cR hr5) (cwV 0 hts gX4_outcome_X4_foreseen rfl rfl rfl (by decide +kernel) ⟨Nat.le_of_ble_eq_true rfl, Nat.le_of_ble_eq_true rfl⟩) rfl hl.1 rfl (Nat.le_of_ble_eq_true rfl) dX4_outcome_5) (fun H locs hP hD hS => ?_)
    have hP : va_P D vwCl (wd_X4_outcome cI cZ cR a_t a_t_first a_t_rank a_t_told a_t_beaten a_t_leads a_t_order t_count t_beaten_r (r4.2) t_order_r) H := hP
    have hD : va_D A (wd_X4_outcome cI cZ cR a_t a_t_first a_t_rank a_t_told a_t_beaten a_t_leads a_t_order t_count t_beaten_r (r4.2) t_order_r) := hD
    refine lv_goto (tgt := 15) hx hb dX4_outcome_8 (by decide) ?_
    cases hf
    exact reti X hK hP hD hS dX4_outcome_15

abbrev wd_X4_firstOrder (cI cZ cR : ClassId) (a_t a_t_first a_t_rank a_t_told a_t_beaten a_t_leads a_t_order : Nat) (t_count : Int32) (t_order_r : Nat → Int32) : va_W := [(a_t, oB 4 [.ref a_t_first, .ref a_t_rank, .ref a_t_told, .ref a_t_beaten, .ref a_t_leads, .ref a_t_order, .int t_count]), (a_t_order, aI cI 6 t_order_r)]
def F_X4_firstOrder_7 (x1 : Int32) : Nat → Int32 → Int32 → (Nat → Int32) → Option (Int32 × Int32 × (Nat → Int32))
  | 0, _, _, _ => none
  | n + 1, x2, t_count, t_order_r => (if (6 : Int32) ≤ x2 then (if t_count ≤ 0 then (some ((0 : Int32), t_count, t_order_r)) else (some ((1 : Int32), t_count, t_order_r))) else ((F_X11_has x1 x2).bind (fun r3 => (if r3 = 0 then (F_X4_firstOrder_7 x1 n (x2 + (1 : Int32)) t_count t_order_r) else (gin t_count 6 (F_X4_firstOrder_7 x1 n (x2 + (1 : Int32)) (t_count + (1 : Int32)) (upd t_order_r (t_count).toNatClampNeg x2)))))))
def F_X4_firstOrder (x1 : Int32) (t_count : Int32) (t_order_r : Nat → Int32) : Option (Int32 × Int32 × (Nat → Int32)) := (F_X4_firstOrder_7 x1 FU (0 : Int32) (0 : Int32) t_order_r)
set_option maxRecDepth 100000 in
theorem in_X4_firstOrder_X4 : ∀ w ∈ wsX40, w ∈ wsX4_firstOrder := by decide +kernel
set_option maxHeartbeats 4000000 in
set_option maxRecDepth 100000 in
theorem w_X4_firstOrder_7 {p : Program} {l : Launch} {e : Env} {s : State} {m : MethodId} {args : Array Value} {below : List Frame} {meth : Method} {c : Code} {D : va_G} {cI cZ cR : ClassId} {A : Nat → Prop} {a_t a_t_first a_t_rank a_t_told a_t_beaten a_t_leads a_t_order : Nat} {x1 : Int32} {out : Int32 × Int32 × (Nat → Int32)} (X : cx p s m args meth c cX4_firstOrder 3 (some .boolean) RX4 wsX4_firstOrder) (hK : va_K D vwCl (ty3 cI cZ cR) s) (hA : ∀ q, s.heap.size ≤ q → A q) : ∀ (n : Nat) (x2 : Int32) (t_count : Int32) (t_order_r : Nat → Int32), F_X4_firstOrder_7 x1 n x2 t_count t_order_r = some out → ∀ (H : Heap) (locs : List Loc), va_P D vwCl (wd_X4_firstOrder cI cZ cR a_t a_t_first a_t_rank a_t_told a_t_beaten a_t_leads a_t_order t_count t_order_r) H → va_D A (wd_X4_firstOrder cI cZ cR a_t a_t_first a_t_rank a_t_told a_t_beaten a_t_leads a_t_order t_count t_order_r) → va_S A s.heap H locs → ∀ (ls : Array Slot), lv_has ls 3 [(0, .ref a_t), (1, .int x1), (2, .int x2)] → W p l e (headSpec wsX4_firstOrder ({ frames := 1, cells := 0, slots := 0, locals := 21 } : Room)).room s m args below meth c H locs 0 0 (MQ below (qi D cI cZ cR A (out.1) (wd_X4_firstOrder cI cZ cR a_t a_t_first a_t_rank a_t_told a_t_beaten a_t_leads a_t_order (out.2.1) (out.2.2))) args s 0 0 A) (F0 m 7 ls []) := by
  obtain ⟨hx, hb, hml, hr, hown, hts, hlocks, hN⟩ := id X
  intro n
  induction n with
  | zero =>
    intro x2 t_count t_order_r hf
    cases (show (none : Option (Int32 × Int32 × (Nat → Int32))) = some out from hf)
  | succ n ih =>
    intro x2 t_count t_order_r hf H locs hP hD hS ls hl
    rw [F_X4_firstOrder_7] at hf
    refine lv_iload_n hx hb dX4_firstOrder_7 rfl (lv_at hl 2 rfl) ?_
    refine lv_bipush (v := (6 : Int32)) hx hb dX4_firstOrder_8 (by decide) ?_
    refine lv_icmp_ge (tgt := 47) hx hb dX4_firstOrder_10 (by decide) (fun c1 => ?_) (fun c1 => ?_)
    · have hf := ipos c1 hf
      refine lv_aload_n hx hb dX4_firstOrder_47 rfl (lv_at hl 0 rfl) ?_
      refine va_get (D := D) (ci := 4) (v := .int t_count) (C := RX4) (T := TX4) (N := 7) hx hb hts in_X4_firstOrder_X4 hown hK hP 0 rfl rfl 6 (by decide) (hts (.fieldLink RX4 65 "DivisionHall$Motions" "count" "I") (by decide +kernel)) (fun _ h9 => h9) rfl dX4_firstOrder_48 ?_
      refine lv_if_le (tgt := 58) hx hb dX4_firstOrder_51 (by decide) (fun c2 => ?_) (fun c2 => ?_)
      · have hf := ipos c2 hf
        refine lv_iconst (v := (0 : Int32)) hx hb dX4_firstOrder_58 (by decide) ?_
        cases hf
        exact retz (Or.inl rfl) X hK hP hD hS dX4_firstOrder_59
      · have hf := ineg c2 hf
        refine lv_iconst (v := (1 : Int32)) hx hb dX4_firstOrder_54 (by decide) ?_
        refine lv_goto (tgt := 59) hx hb dX4_firstOrder_55 (by decide) ?_
        cases hf
        exact retz (Or.inr rfl) X hK hP hD hS dX4_firstOrder_59
    · have hf := ineg c1 hf
      refine lv_iload_n hx hb dX4_firstOrder_13 rfl (lv_at hl 1 rfl) ?_
      refine lv_iload_n hx hb dX4_firstOrder_14 rfl (lv_at hl 2 rfl) ?_
      obtain ⟨r3, hr4, hf⟩ := bnd hf
      refine wcalli (D := D) (cI := cI) (cZ := cZ) (cR := cR) (wc := (wd_X11_has cI cZ cR)) (w' := (wd_X11_has cI cZ cR)) [] hP hD hS hA rfl rfl rfl (rnSN (As := [.int x1, .int x2]) X [] hK hP hD rfl rfl (c_X11_has l D cI cZ cR hr4) ⟨va_cnB (host := "DivisionHall") 2 hts ggX4_firstOrder_X11_has rfl rfl rfl (hN.2.1 ("DivisionHall$Motions", 40, yX11_has, "DivisionHall") (by decide +kernel)) (hts (.initialized RX11) (by decide +kernel)) (by decide +kernel) ⟨Nat.le_of_ble_eq_true rfl, Nat.le_of_ble_eq_true rfl⟩, hts (.static yX11_has) (by decide +kernel), trivial⟩ rfl hl.1 rfl (Nat.le_of_ble_eq_true rfl) dX4_firstOrder_15) (fun H locs hP hD hS => ?_)
      have hP : va_P D vwCl (wd_X4_firstOrder cI cZ cR a_t a_t_first a_t_rank a_t_told a_t_beaten a_t_leads a_t_order t_count t_order_r) H := hP
      have hD : va_D A (wd_X4_firstOrder cI cZ cR a_t a_t_first a_t_rank a_t_told a_t_beaten a_t_leads a_t_order t_count t_order_r) := hD
      refine lv_if_eq (tgt := 41) hx hb dX4_firstOrder_18 (by decide) (fun c5 => ?_) (fun c5 => ?_)
      · have hf := ipos c5 hf
        refine lv_iinc (v := (x2 + (1 : Int32))) (lv' := [(2, .int (x2 + (1 : Int32))), (0, .ref a_t), (1, .int x1)]) hx hb dX4_firstOrder_41 hl (k := 2) rfl rfl (by decide) rfl (fun ls hl => ?_)
        refine lv_goto (tgt := 7) hx hb dX4_firstOrder_44 (by decide) ?_
        exact ih (x2 + (1 : Int32)) t_count t_order_r hf _ _ hP hD hS _ (lv_sub hl [1, 2, 0] rfl)
      · have hf := ineg c5 hf
        refine lv_aload_n hx hb dX4_firstOrder_21 rfl (lv_at hl 0 rfl) ?_
        refine va_get (D := D) (ci := 4) (v := .ref a_t_order) (C := RX4) (T := TX4) (N := 7) hx hb hts in_X4_firstOrder_X4 hown hK hP 0 rfl rfl 5 (by decide) (hts (.fieldLink RX4 27 "DivisionHall$Motions" "order" "[I") (by decide +kernel)) (fun _ h9 => h9) rfl dX4_firstOrder_22 ?_
        refine lv_aload_n hx hb dX4_firstOrder_25 rfl (lv_at hl 0 rfl) ?_
        refine va_get (D := D) (ci := 4) (v := .int t_count) (C := RX4) (T := TX4) (N := 7) hx hb hts in_X4_firstOrder_X4 hown hK hP 0 rfl rfl 6 (by decide) (hts (.fieldLink RX4 65 "DivisionHall$Motions" "count" "I") (by decide +kernel)) (fun _ h9 => h9) rfl dX4_firstOrder_26 ?_
        refine lv_iload_n hx hb dX4_firstOrder_29 rfl (lv_at hl 2 rfl) ?_
        obtain ⟨hi6, hf⟩ := gin_s hf
        refine va_iast hx hb hK hP hD hS 1 0 rfl rfl hi6 dX4_firstOrder_30 (fun H locs hP hD hS => ?_)
        have hP : va_P D vwCl (wd_X4_firstOrder cI cZ cR a_t a_t_first a_t_rank a_t_told a_t_beaten a_t_leads a_t_order t_count (upd t_order_r (t_count).toNatClampNeg x2)) H := hP
        have hD : va_D A (wd_X4_firstOrder cI cZ cR a_t a_t_first a_t_rank a_t_told a_t_beaten a_t_leads a_t_order t_count (upd t_order_r (t_count).toNatClampNeg x2)) := hD
        refine lv_aload_n hx hb dX4_firstOrder_31 rfl (lv_at hl 0 rfl) ?_
        refine lv_dup hx hb dX4_firstOrder_32 rfl ?_
        refine va_get (D := D) (ci := 4) (v := .int t_count) (C := RX4) (T := TX4) (N := 7) hx hb hts in_X4_firstOrder_X4 hown hK hP 0 rfl rfl 6 (by decide) (hts (.fieldLink RX4 65 "DivisionHall$Motions" "count" "I") (by decide +kernel)) (fun _ h9 => h9) rfl dX4_firstOrder_33 ?_
        refine lv_iconst (v := (1 : Int32)) hx hb dX4_firstOrder_36 (by decide) ?_
        refine lv_iadd hx hb dX4_firstOrder_37 ?_
        refine va_put (D := D) (ci := 4) (v := .int (t_count + (1 : Int32))) (ty := .int) (C := RX4) (T := TX4) (N := 7) hx hb hts in_X4_firstOrder_X4 tyX4 tyX4_ok nmX4 hown hK hP hD hS 0 rfl rfl 6 (by decide) (hts (.fieldLink RX4 65 "DivisionHall$Motions" "count" "I") (by decide +kernel)) (fun _ h9 => h9) rfl (by decide +kernel) rfl rfl (Nat.le_of_ble_eq_true rfl) dX4_firstOrder_38 (fun H locs hP hD hS => ?_)
        have hP : va_P D vwCl (wd_X4_firstOrder cI cZ cR a_t a_t_first a_t_rank a_t_told a_t_beaten a_t_leads a_t_order (t_count + (1 : Int32)) (upd t_order_r (t_count).toNatClampNeg x2)) H := hP
        have hD : va_D A (wd_X4_firstOrder cI cZ cR a_t a_t_first a_t_rank a_t_told a_t_beaten a_t_leads a_t_order (t_count + (1 : Int32)) (upd t_order_r (t_count).toNatClampNeg x2)) := hD
        refine lv_iinc (v := (x2 + (1 : Int32))) (lv' := [(2, .int (x2 + (1 : Int32))), (0, .ref a_t), (1, .int x1)]) hx hb dX4_firstOrder_41 hl (k := 2) rfl rfl (by decide) rfl (fun ls hl => ?_)
        refine lv_goto (tgt := 7) hx hb dX4_firstOrder_44 (by decide) ?_
        exact ih (x2 + (1 : Int32)) (t_count + (1 : Int32)) (upd t_order_r (t_count).toNatClampNeg x2) hf _ _ hP hD hS _ (lv_sub hl [1, 2, 0] rfl)
set_option maxHeartbeats 4000000 in
set_option maxRecDepth 100000 in
theorem c_X4_firstOrder (l : Launch) (D : va_G) (cI cZ cR : ClassId) {a_t a_t_first a_t_rank a_t_told a_t_beaten a_t_leads a_t_order : Nat} {t_count : Int32} {t_order_r : Nat → Int32} {x1 : Int32} {sz : Nat} {out : Int32 × Int32 × (Nat → Int32)} (hf : F_X4_firstOrder x1 t_count t_order_r = some out) : CI l yX4_firstOrder wsX4_firstOrder ({ frames := 1, cells := 0, slots := 0, locals := 21 } : Room) D cI cZ cR [.ref a_t, .int x1] (wd_X4_firstOrder cI cZ cR a_t a_t_first a_t_rank a_t_told a_t_beaten a_t_leads a_t_order t_count t_order_r) sz (out.1) (wd_X4_firstOrder cI cZ cR a_t a_t_first a_t_rank a_t_told a_t_beaten a_t_leads a_t_order (out.2.1) (out.2.2)) := by
  refine met_of (Qf := fun A => qi D cI cZ cR A (out.1) (wd_X4_firstOrder cI cZ cR a_t a_t_first a_t_rank a_t_told a_t_beaten a_t_leads a_t_order (out.2.1) (out.2.2))) RX4 (by decide +kernel) rfl rfl (Nat.le_of_ble_eq_true rfl) ?_
  intro p e s m below meth c A X hK hA hP hD hS ls hl
  have hl : lv_has ls 3 [(0, .ref a_t), (1, .int x1)] := hl
  obtain ⟨hx, hb, hml, hr, hown, hts, hlocks, hN⟩ := id X
  unfold F_X4_firstOrder at hf
  refine lv_aload_n hx hb dX4_firstOrder_0 rfl (lv_at hl 0 rfl) ?_
  refine lv_iconst (v := (0 : Int32)) hx hb dX4_firstOrder_1 (by decide) ?_
  refine va_put (D := D) (ci := 4) (v := .int (0 : Int32)) (ty := .int) (C := RX4) (T := TX4) (N := 7) hx hb hts in_X4_firstOrder_X4 tyX4 tyX4_ok nmX4 hown hK hP hD hS 0 rfl rfl 6 (by decide) (hts (.fieldLink RX4 65 "DivisionHall$Motions" "count" "I") (by decide +kernel)) (fun _ h9 => h9) rfl (by decide +kernel) rfl rfl (Nat.le_of_ble_eq_true rfl) dX4_firstOrder_2 (fun H locs hP hD hS => ?_)
  have hP : va_P D vwCl (wd_X4_firstOrder cI cZ cR a_t a_t_first a_t_rank a_t_told a_t_beaten a_t_leads a_t_order (0 : Int32) t_order_r) H := hP
  have hD : va_D A (wd_X4_firstOrder cI cZ cR a_t a_t_first a_t_rank a_t_told a_t_beaten a_t_leads a_t_order (0 : Int32) t_order_r) := hD
  refine lv_iconst (v := (0 : Int32)) hx hb dX4_firstOrder_5 (by decide) ?_
  refine lv_istore_n (lv' := [(2, .int (0 : Int32)), (0, .ref a_t), (1, .int x1)]) hx hb dX4_firstOrder_6 rfl hl (by decide) rfl (fun ls hl => ?_)
  exact w_X4_firstOrder_7 X hK hA _ (0 : Int32) (0 : Int32) t_order_r hf _ _ hP hD hS _ (lv_sub hl [1, 2, 0] rfl)

abbrev wd_X4_swap (cI cZ cR : ClassId) (a_t a_t_first a_t_rank a_t_told a_t_beaten a_t_leads a_t_order : Nat) (t_count : Int32) (t_order_r : Nat → Int32) : va_W := [(a_t, oB 4 [.ref a_t_first, .ref a_t_rank, .ref a_t_told, .ref a_t_beaten, .ref a_t_leads, .ref a_t_order, .int t_count]), (a_t_order, aI cI 6 t_order_r)]
def F_X4_swap (x1 : Int32) (x2 : Int32) (t_order_r : Nat → Int32) : Option ((Nat → Int32)) := ((F_X11_inside x1 (6 : Int32)).bind (fun r1 => (if r1 = 0 then (some t_order_r) else ((F_X11_inside x2 (6 : Int32)).bind (fun r4 => (if r4 = 0 then (some t_order_r) else (gin x1 6 (gin x2 6 (gin x1 6 (gin x2 6 (some (upd (upd t_order_r (x1).toNatClampNeg (t_order_r (x2).toNatClampNeg)) (x2).toNatClampNeg (t_order_r (x1).toNatClampNeg)))))))))))))
set_option maxRecDepth 100000 in
theorem in_X4_swap_X4 : ∀ w ∈ wsX40, w ∈ wsX4_swap := by decide +kernel
set_option maxHeartbeats 4000000 in
set_option maxRecDepth 100000 in
theorem c_X4_swap (l : Launch) (D : va_G) (cI cZ cR : ClassId) {a_t a_t_first a_t_rank a_t_told a_t_beaten a_t_leads a_t_order : Nat} {t_count : Int32} {t_order_r : Nat → Int32} {x1 : Int32} {x2 : Int32} {sz : Nat} {out : (Nat → Int32)} (hf : F_X4_swap x1 x2 t_order_r = some out) : CV l yX4_swap wsX4_swap ({ frames := 1, cells := 0, slots := 0, locals := 21 } : Room) D cI cZ cR [.ref a_t, .int x1, .int x2] (wd_X4_swap cI cZ cR a_t a_t_first a_t_rank a_t_told a_t_beaten a_t_leads a_t_order t_count t_order_r) sz (wd_X4_swap cI cZ cR a_t a_t_first a_t_rank a_t_told a_t_beaten a_t_leads a_t_order t_count out) := by
  refine met_of (Qf := fun A => qv D cI cZ cR A (wd_X4_swap cI cZ cR a_t a_t_first a_t_rank a_t_told a_t_beaten a_t_leads a_t_order t_count out)) RX4 (by decide +kernel) rfl rfl (Nat.le_of_ble_eq_true rfl) ?_
  intro p e s m below meth c A X hK hA hP hD hS ls hl
  have hl : lv_has ls 4 [(0, .ref a_t), (1, .int x1), (2, .int x2)] := hl
  obtain ⟨hx, hb, hml, hr, hown, hts, hlocks, hN⟩ := id X
  unfold F_X4_swap at hf
  refine lv_iload_n hx hb dX4_swap_0 rfl (lv_at hl 1 rfl) ?_
  refine lv_bipush (v := (6 : Int32)) hx hb dX4_swap_1 (by decide) ?_
  obtain ⟨r1, hr2, hf⟩ := bnd hf
  refine wcalli (D := D) (cI := cI) (cZ := cZ) (cR := cR) (wc := (wd_X11_inside cI cZ cR)) (w' := (wd_X11_inside cI cZ cR)) [] hP hD hS hA rfl rfl rfl (rnSN (As := [.int x1, .int (6 : Int32)]) X [] hK hP hD rfl rfl (c_X11_inside l D cI cZ cR hr2) ⟨va_cnB (host := "DivisionHall") 2 hts ggX4_swap_X11_inside rfl rfl rfl (hN.2.1 ("DivisionHall$Motions", 36, yX11_inside, "DivisionHall") (by decide +kernel)) (hts (.initialized RX11) (by decide +kernel)) (by decide +kernel) ⟨Nat.le_of_ble_eq_true rfl, Nat.le_of_ble_eq_true rfl⟩, hts (.static yX11_inside) (by decide +kernel), trivial⟩ rfl hl.1 rfl (Nat.le_of_ble_eq_true rfl) dX4_swap_3) (fun H locs hP hD hS => ?_)
  have hP : va_P D vwCl (wd_X4_swap cI cZ cR a_t a_t_first a_t_rank a_t_told a_t_beaten a_t_leads a_t_order t_count t_order_r) H := hP
  have hD : va_D A (wd_X4_swap cI cZ cR a_t a_t_first a_t_rank a_t_told a_t_beaten a_t_leads a_t_order t_count t_order_r) := hD
  refine lv_if_eq (tgt := 44) hx hb dX4_swap_6 (by decide) (fun c3 => ?_) (fun c3 => ?_)
  · have hf := ipos c3 hf
    cases hf
    exact retv X hK hP hD hS dX4_swap_44
  · have hf := ineg c3 hf
    refine lv_iload_n hx hb dX4_swap_9 rfl (lv_at hl 2 rfl) ?_
    refine lv_bipush (v := (6 : Int32)) hx hb dX4_swap_10 (by decide) ?_
    obtain ⟨r4, hr5, hf⟩ := bnd hf
    refine wcalli (D := D) (cI := cI) (cZ := cZ) (cR := cR) (wc := (wd_X11_inside cI cZ cR)) (w' := (wd_X11_inside cI cZ cR)) [] hP hD hS hA rfl rfl rfl (rnSN (As := [.int x2, .int (6 : Int32)]) X [] hK hP hD rfl rfl (c_X11_inside l D cI cZ cR hr5) ⟨va_cnB (host := "DivisionHall") 2 hts ggX4_swap_X11_inside rfl rfl rfl (hN.2.1 ("DivisionHall$Motions", 36, yX11_inside, "DivisionHall") (by decide +kernel)) (hts (.initialized RX11) (by decide +kernel)) (by decide +kernel) ⟨Nat.le_of_ble_eq_true rfl, Nat.le_of_ble_eq_true rfl⟩, hts (.static yX11_inside) (by decide +kernel), trivial⟩ rfl hl.1 rfl (Nat.le_of_ble_eq_true rfl) dX4_swap_12) (fun H locs hP hD hS => ?_)
    have hP : va_P D vwCl (wd_X4_swap cI cZ cR a_t a_t_first a_t_rank a_t_told a_t_beaten a_t_leads a_t_order t_count t_order_r) H := hP
    have hD : va_D A (wd_X4_swap cI cZ cR a_t a_t_first a_t_rank a_t_told a_t_beaten a_t_leads a_t_order t_count t_order_r) := hD
    refine lv_if_eq (tgt := 44) hx hb dX4_swap_15 (by decide) (fun c6 => ?_) (fun c6 => ?_)
    · have hf := ipos c6 hf
      cases hf
      exact retv X hK hP hD hS dX4_swap_44
    · have hf := ineg c6 hf
      refine lv_aload_n hx hb dX4_swap_18 rfl (lv_at hl 0 rfl) ?_
      refine va_get (D := D) (ci := 4) (v := .ref a_t_order) (C := RX4) (T := TX4) (N := 7) hx hb hts in_X4_swap_X4 hown hK hP 0 rfl rfl 5 (by decide) (hts (.fieldLink RX4 27 "DivisionHall$Motions" "order" "[I") (by decide +kernel)) (fun _ h9 => h9) rfl dX4_swap_19 ?_
      refine lv_iload_n hx hb dX4_swap_22 rfl (lv_at hl 1 rfl) ?_
      obtain ⟨hi7, hf⟩ := gin_s hf
      refine va_iald hx hb hK hP 1 0 rfl rfl hi7 dX4_swap_23 ?_
      refine lv_istore_n (lv' := [(3, .int (t_order_r (x1).toNatClampNeg)), (0, .ref a_t), (1, .int x1), (2, .int x2)]) hx hb dX4_swap_24 rfl hl (by decide) rfl (fun ls hl => ?_)
      refine lv_aload_n hx hb dX4_swap_25 rfl (lv_at hl 1 rfl) ?_
      refine va_get (D := D) (ci := 4) (v := .ref a_t_order) (C := RX4) (T := TX4) (N := 7) hx hb hts in_X4_swap_X4 hown hK hP 0 rfl rfl 5 (by decide) (hts (.fieldLink RX4 27 "DivisionHall$Motions" "order" "[I") (by decide +kernel)) (fun _ h9 => h9) rfl dX4_swap_26 ?_
      refine lv_iload_n hx hb dX4_swap_29 rfl (lv_at hl 2 rfl) ?_
      refine lv_aload_n hx hb dX4_swap_30 rfl (lv_at hl 1 rfl) ?_
      refine va_get (D := D) (ci := 4) (v := .ref a_t_order) (C := RX4) (T := TX4) (N := 7) hx hb hts in_X4_swap_X4 hown hK hP 0 rfl rfl 5 (by decide) (hts (.fieldLink RX4 27 "DivisionHall$Motions" "order" "[I") (by decide +kernel)) (fun _ h9 => h9) rfl dX4_swap_31 ?_
      refine lv_iload_n hx hb dX4_swap_34 rfl (lv_at hl 3 rfl) ?_
      obtain ⟨hi8, hf⟩ := gin_s hf
      refine va_iald hx hb hK hP 1 0 rfl rfl hi8 dX4_swap_35 ?_
      obtain ⟨hi9, hf⟩ := gin_s hf
      refine va_iast hx hb hK hP hD hS 1 0 rfl rfl hi9 dX4_swap_36 (fun H locs hP hD hS => ?_)
      have hP : va_P D vwCl (wd_X4_swap cI cZ cR a_t a_t_first a_t_rank a_t_told a_t_beaten a_t_leads a_t_order t_count (upd t_order_r (x1).toNatClampNeg (t_order_r (x2).toNatClampNeg))) H := hP
      have hD : va_D A (wd_X4_swap cI cZ cR a_t a_t_first a_t_rank a_t_told a_t_beaten a_t_leads a_t_order t_count (upd t_order_r (x1).toNatClampNeg (t_order_r (x2).toNatClampNeg))) := hD
      refine lv_aload_n hx hb dX4_swap_37 rfl (lv_at hl 1 rfl) ?_
      refine va_get (D := D) (ci := 4) (v := .ref a_t_order) (C := RX4) (T := TX4) (N := 7) hx hb hts in_X4_swap_X4 hown hK hP 0 rfl rfl 5 (by decide) (hts (.fieldLink RX4 27 "DivisionHall$Motions" "order" "[I") (by decide +kernel)) (fun _ h9 => h9) rfl dX4_swap_38 ?_
      refine lv_iload_n hx hb dX4_swap_41 rfl (lv_at hl 3 rfl) ?_
      refine lv_iload_n hx hb dX4_swap_42 rfl (lv_at hl 0 rfl) ?_
      obtain ⟨hi10, hf⟩ := gin_s hf
      refine va_iast hx hb hK hP hD hS 1 0 rfl rfl hi10 dX4_swap_43 (fun H locs hP hD hS => ?_)
      have hP : va_P D vwCl (wd_X4_swap cI cZ cR a_t a_t_first a_t_rank a_t_told a_t_beaten a_t_leads a_t_order t_count (upd (upd t_order_r (x1).toNatClampNeg (t_order_r (x2).toNatClampNeg)) (x2).toNatClampNeg (t_order_r (x1).toNatClampNeg))) H := hP
      have hD : va_D A (wd_X4_swap cI cZ cR a_t a_t_first a_t_rank a_t_told a_t_beaten a_t_leads a_t_order t_count (upd (upd t_order_r (x1).toNatClampNeg (t_order_r (x2).toNatClampNeg)) (x2).toNatClampNeg (t_order_r (x1).toNatClampNeg))) := hD
      cases hf
      exact retv X hK hP hD hS dX4_swap_44

abbrev wd_X4_nextOrder (cI cZ cR : ClassId) (a_t a_t_first a_t_rank a_t_told a_t_beaten a_t_leads a_t_order : Nat) (t_count : Int32) (t_order_r : Nat → Int32) : va_W := [(a_t, oB 4 [.ref a_t_first, .ref a_t_rank, .ref a_t_told, .ref a_t_beaten, .ref a_t_leads, .ref a_t_order, .int t_count]), (a_t_order, aI cI 6 t_order_r)]
def F_X4_nextOrder_91 (t_count : Int32) : Nat → Int32 → Int32 → (Nat → Int32) → Option (Int32 × (Nat → Int32))
  | 0, _, _, _ => none
  | n + 1, x3, x4, t_order_r => (if x4 ≤ x3 then (some ((1 : Int32), t_order_r)) else ((F_X4_swap x3 x4 t_order_r).bind (fun r13 => (F_X4_nextOrder_91 t_count n (x3 + (1 : Int32)) (x4 + (-1 : Int32)) r13))))
def F_X4_nextOrder_73 (t_count : Int32) (x1 : Int32) (x2 : Int32) (t_order_r : Nat → Int32) : Option (Int32 × (Nat → Int32)) := ((F_X4_swap x1 x2 t_order_r).bind (fun r10 => (F_X4_nextOrder_91 t_count FU (x1 + (1 : Int32)) (t_count - (1 : Int32)) r10)))
def F_X4_nextOrder_47 (t_count : Int32) : Nat → Int32 → Int32 → (Nat → Int32) → Option (Int32 × (Nat → Int32))
  | 0, _, _, _ => none
  | n + 1, x1, x2, t_order_r => (if x2 ≤ x1 then (F_X4_nextOrder_73 t_count x1 x2 t_order_r) else (gin x2 6 (gin x1 6 (if (t_order_r (x1).toNatClampNeg) ≤ (t_order_r (x2).toNatClampNeg) then (F_X4_nextOrder_73 t_count x1 x2 t_order_r) else (F_X4_nextOrder_47 t_count n x1 (x2 + (-1 : Int32)) t_order_r)))))
def F_X4_nextOrder_34 (t_count : Int32) (x1 : Int32) (t_order_r : Nat → Int32) : Option (Int32 × (Nat → Int32)) := (if 0 ≤ x1 then (F_X4_nextOrder_47 t_count FU x1 (t_count - (1 : Int32)) t_order_r) else (some ((0 : Int32), t_order_r)))
def F_X4_nextOrder_7 (t_count : Int32) : Nat → Int32 → (Nat → Int32) → Option (Int32 × (Nat → Int32))
  | 0, _, _ => none
  | n + 1, x1, t_order_r => (if x1 < 0 then (F_X4_nextOrder_34 t_count x1 t_order_r) else (gin x1 6 (gin (x1 + (1 : Int32)) 6 (if (t_order_r (x1).toNatClampNeg) ≤ (t_order_r ((x1 + (1 : Int32))).toNatClampNeg) then (F_X4_nextOrder_34 t_count x1 t_order_r) else (F_X4_nextOrder_7 t_count n (x1 + (-1 : Int32)) t_order_r)))))
def F_X4_nextOrder (t_count : Int32) (t_order_r : Nat → Int32) : Option (Int32 × (Nat → Int32)) := (F_X4_nextOrder_7 t_count FU (t_count - (2 : Int32)) t_order_r)
set_option maxRecDepth 100000 in
theorem in_X4_nextOrder_X4 : ∀ w ∈ wsX40, w ∈ wsX4_nextOrder := by decide +kernel
set_option maxHeartbeats 4000000 in
set_option maxRecDepth 100000 in
theorem w_X4_nextOrder_91 {p : Program} {l : Launch} {e : Env} {s : State} {m : MethodId} {args : Array Value} {below : List Frame} {meth : Method} {c : Code} {D : va_G} {cI cZ cR : ClassId} {A : Nat → Prop} {a_t a_t_first a_t_rank a_t_told a_t_beaten a_t_leads a_t_order : Nat} {t_count : Int32} {out : Int32 × (Nat → Int32)} (X : cx p s m args meth c cX4_nextOrder 5 (some .boolean) RX4 wsX4_nextOrder) (hK : va_K D vwCl (ty3 cI cZ cR) s) (hA : ∀ q, s.heap.size ≤ q → A q) : ∀ (n : Nat) (x3 : Int32) (x4 : Int32) (t_order_r : Nat → Int32), F_X4_nextOrder_91 t_count n x3 x4 t_order_r = some out → ∀ (H : Heap) (locs : List Loc), va_P D vwCl (wd_X4_nextOrder cI cZ cR a_t a_t_first a_t_rank a_t_told a_t_beaten a_t_leads a_t_order t_count t_order_r) H → va_D A (wd_X4_nextOrder cI cZ cR a_t a_t_first a_t_rank a_t_told a_t_beaten a_t_leads a_t_order t_count t_order_r) → va_S A s.heap H locs → ∀ (ls : Array Slot), lv_has ls 5 [(0, .ref a_t), (3, .int x3), (4, .int x4)] → W p l e (headSpec wsX4_nextOrder ({ frames := 2, cells := 0, slots := 0, locals := 44 } : Room)).room s m args below meth c H locs 0 0 (MQ below (qi D cI cZ cR A (out.1) (wd_X4_nextOrder cI cZ cR a_t a_t_first a_t_rank a_t_told a_t_beaten a_t_leads a_t_order t_count (out.2))) args s 0 0 A) (F0 m 91 ls []) := by
  obtain ⟨hx, hb, hml, hr, hown, hts, hlocks, hN⟩ := id X
  intro n
  induction n with
  | zero =>
    intro x3 x4 t_order_r hf
    cases (show (none : Option (Int32 × (Nat → Int32))) = some out from hf)
  | succ n ih =>
    intro x3 x4 t_order_r hf H locs hP hD hS ls hl
    rw [F_X4_nextOrder_91] at hf
    refine lv_iload_n hx hb dX4_nextOrder_91 rfl (lv_at hl 1 rfl) ?_
    refine lv_iload hx hb dX4_nextOrder_92 (lv_at hl 2 rfl) ?_
    refine lv_icmp_ge (tgt := 113) hx hb dX4_nextOrder_94 (by decide) (fun c12 => ?_) (fun c12 => ?_)
    · have hf := ipos c12 hf
      refine lv_iconst (v := (1 : Int32)) hx hb dX4_nextOrder_113 (by decide) ?_
      cases hf
      exact retz (Or.inr rfl) X hK hP hD hS dX4_nextOrder_114
    · have hf := ineg c12 hf
      refine lv_aload_n hx hb dX4_nextOrder_97 rfl (lv_at hl 0 rfl) ?_
      refine lv_iload_n hx hb dX4_nextOrder_98 rfl (lv_at hl 1 rfl) ?_
      refine lv_iload hx hb dX4_nextOrder_99 (lv_at hl 2 rfl) ?_
      obtain ⟨r13, hr14, hf⟩ := bnd hf
      refine wcallv (D := D) (cI := cI) (cZ := cZ) (cR := cR) (wc := (wd_X4_swap cI cZ cR a_t a_t_first a_t_rank a_t_told a_t_beaten a_t_leads a_t_order t_count t_order_r)) (w' := (wd_X4_swap cI cZ cR a_t a_t_first a_t_rank a_t_told a_t_beaten a_t_leads a_t_order t_count r13)) [0, 1] hP hD hS hA rfl rfl rfl (rnV (As := [.int x3, .int x4]) (ci := 4) (q0 := 0) X [0, 1] hK hP hD rfl rfl rfl rfl (c_X4_swap l D cI cZ cR hr14) (cwV 2 hts gX4_nextOrder_X4_swap rfl rfl rfl (by decide +kernel) ⟨Nat.le_of_ble_eq_true rfl, Nat.le_of_ble_eq_true rfl⟩) rfl hl.1 rfl (Nat.le_of_ble_eq_true rfl) dX4_nextOrder_101) (fun H locs hP hD hS => ?_)
      have hP : va_P D vwCl (wd_X4_nextOrder cI cZ cR a_t a_t_first a_t_rank a_t_told a_t_beaten a_t_leads a_t_order t_count r13) H := hP
      have hD : va_D A (wd_X4_nextOrder cI cZ cR a_t a_t_first a_t_rank a_t_told a_t_beaten a_t_leads a_t_order t_count r13) := hD
      refine lv_iinc (v := (x3 + (1 : Int32))) (lv' := [(3, .int (x3 + (1 : Int32))), (0, .ref a_t), (4, .int x4)]) hx hb dX4_nextOrder_104 hl (k := 1) rfl rfl (by decide) rfl (fun ls hl => ?_)
      refine lv_iinc (v := (x4 + (-1 : Int32))) (lv' := [(4, .int (x4 + (-1 : Int32))), (3, .int (x3 + (1 : Int32))), (0, .ref a_t)]) hx hb dX4_nextOrder_107 hl (k := 2) rfl rfl (by decide) rfl (fun ls hl => ?_)
      refine lv_goto (tgt := 91) hx hb dX4_nextOrder_110 (by decide) ?_
      exact ih (x3 + (1 : Int32)) (x4 + (-1 : Int32)) r13 hf _ _ hP hD hS _ (lv_sub hl [2, 1, 0] rfl)
set_option maxHeartbeats 4000000 in
set_option maxRecDepth 100000 in
theorem w_X4_nextOrder_73 {p : Program} {l : Launch} {e : Env} {s : State} {m : MethodId} {args : Array Value} {below : List Frame} {meth : Method} {c : Code} {D : va_G} {cI cZ cR : ClassId} {A : Nat → Prop} {a_t a_t_first a_t_rank a_t_told a_t_beaten a_t_leads a_t_order : Nat} {t_count : Int32} {out : Int32 × (Nat → Int32)} (X : cx p s m args meth c cX4_nextOrder 5 (some .boolean) RX4 wsX4_nextOrder) (hK : va_K D vwCl (ty3 cI cZ cR) s) (hA : ∀ q, s.heap.size ≤ q → A q) : ∀ (x1 : Int32) (x2 : Int32) (t_order_r : Nat → Int32), F_X4_nextOrder_73 t_count x1 x2 t_order_r = some out → ∀ (H : Heap) (locs : List Loc), va_P D vwCl (wd_X4_nextOrder cI cZ cR a_t a_t_first a_t_rank a_t_told a_t_beaten a_t_leads a_t_order t_count t_order_r) H → va_D A (wd_X4_nextOrder cI cZ cR a_t a_t_first a_t_rank a_t_told a_t_beaten a_t_leads a_t_order t_count t_order_r) → va_S A s.heap H locs → ∀ (ls : Array Slot), lv_has ls 5 [(0, .ref a_t), (1, .int x1), (2, .int x2)] → W p l e (headSpec wsX4_nextOrder ({ frames := 2, cells := 0, slots := 0, locals := 44 } : Room)).room s m args below meth c H locs 0 0 (MQ below (qi D cI cZ cR A (out.1) (wd_X4_nextOrder cI cZ cR a_t a_t_first a_t_rank a_t_told a_t_beaten a_t_leads a_t_order t_count (out.2))) args s 0 0 A) (F0 m 73 ls []) := by
  obtain ⟨hx, hb, hml, hr, hown, hts, hlocks, hN⟩ := id X
  intro x1 x2 t_order_r hf H locs hP hD hS ls hl
  unfold F_X4_nextOrder_73 at hf
  refine lv_aload_n hx hb dX4_nextOrder_73 rfl (lv_at hl 0 rfl) ?_
  refine lv_iload_n hx hb dX4_nextOrder_74 rfl (lv_at hl 1 rfl) ?_
  refine lv_iload_n hx hb dX4_nextOrder_75 rfl (lv_at hl 2 rfl) ?_
  obtain ⟨r10, hr11, hf⟩ := bnd hf
  refine wcallv (D := D) (cI := cI) (cZ := cZ) (cR := cR) (wc := (wd_X4_swap cI cZ cR a_t a_t_first a_t_rank a_t_told a_t_beaten a_t_leads a_t_order t_count t_order_r)) (w' := (wd_X4_swap cI cZ cR a_t a_t_first a_t_rank a_t_told a_t_beaten a_t_leads a_t_order t_count r10)) [0, 1] hP hD hS hA rfl rfl rfl (rnV (As := [.int x1, .int x2]) (ci := 4) (q0 := 0) X [0, 1] hK hP hD rfl rfl rfl rfl (c_X4_swap l D cI cZ cR hr11) (cwV 2 hts gX4_nextOrder_X4_swap rfl rfl rfl (by decide +kernel) ⟨Nat.le_of_ble_eq_true rfl, Nat.le_of_ble_eq_true rfl⟩) rfl hl.1 rfl (Nat.le_of_ble_eq_true rfl) dX4_nextOrder_76) (fun H locs hP hD hS => ?_)
  have hP : va_P D vwCl (wd_X4_nextOrder cI cZ cR a_t a_t_first a_t_rank a_t_told a_t_beaten a_t_leads a_t_order t_count r10) H := hP
  have hD : va_D A (wd_X4_nextOrder cI cZ cR a_t a_t_first a_t_rank a_t_told a_t_beaten a_t_leads a_t_order t_count r10) := hD
  refine lv_iload_n hx hb dX4_nextOrder_79 rfl (lv_at hl 1 rfl) ?_
  refine lv_iconst (v := (1 : Int32)) hx hb dX4_nextOrder_80 (by decide) ?_
  refine lv_iadd hx hb dX4_nextOrder_81 ?_
  refine lv_istore_n (lv' := [(3, .int (x1 + (1 : Int32))), (0, .ref a_t), (1, .int x1), (2, .int x2)]) hx hb dX4_nextOrder_82 rfl hl (by decide) rfl (fun ls hl => ?_)
  refine lv_aload_n hx hb dX4_nextOrder_83 rfl (lv_at hl 1 rfl) ?_
  refine va_get (D := D) (ci := 4) (v := .int t_count) (C := RX4) (T := TX4) (N := 7) hx hb hts in_X4_nextOrder_X4 hown hK hP 0 rfl rfl 6 (by decide) (hts (.fieldLink RX4 65 "DivisionHall$Motions" "count" "I") (by decide +kernel)) (fun _ h9 => h9) rfl dX4_nextOrder_84 ?_
  refine lv_iconst (v := (1 : Int32)) hx hb dX4_nextOrder_87 (by decide) ?_
  refine lv_isub hx hb dX4_nextOrder_88 ?_
  refine lv_istore (lv' := [(4, .int (t_count - (1 : Int32))), (3, .int (x1 + (1 : Int32))), (0, .ref a_t), (1, .int x1), (2, .int x2)]) hx hb dX4_nextOrder_89 hl (by decide) rfl (fun ls hl => ?_)
  exact w_X4_nextOrder_91 X hK hA _ (x1 + (1 : Int32)) (t_count - (1 : Int32)) r10 hf _ _ hP hD hS _ (lv_sub hl [2, 1, 0] rfl)
set_option maxHeartbeats 4000000 in
set_option maxRecDepth 100000 in
theorem w_X4_nextOrder_47 {p : Program} {l : Launch} {e : Env} {s : State} {m : MethodId} {args : Array Value} {below : List Frame} {meth : Method} {c : Code} {D : va_G} {cI cZ cR : ClassId} {A : Nat → Prop} {a_t a_t_first a_t_rank a_t_told a_t_beaten a_t_leads a_t_order : Nat} {t_count : Int32} {out : Int32 × (Nat → Int32)} (X : cx p s m args meth c cX4_nextOrder 5 (some .boolean) RX4 wsX4_nextOrder) (hK : va_K D vwCl (ty3 cI cZ cR) s) (hA : ∀ q, s.heap.size ≤ q → A q) : ∀ (n : Nat) (x1 : Int32) (x2 : Int32) (t_order_r : Nat → Int32), F_X4_nextOrder_47 t_count n x1 x2 t_order_r = some out → ∀ (H : Heap) (locs : List Loc), va_P D vwCl (wd_X4_nextOrder cI cZ cR a_t a_t_first a_t_rank a_t_told a_t_beaten a_t_leads a_t_order t_count t_order_r) H → va_D A (wd_X4_nextOrder cI cZ cR a_t a_t_first a_t_rank a_t_told a_t_beaten a_t_leads a_t_order t_count t_order_r) → va_S A s.heap H locs → ∀ (ls : Array Slot), lv_has ls 5 [(0, .ref a_t), (1, .int x1), (2, .int x2)] → W p l e (headSpec wsX4_nextOrder ({ frames := 2, cells := 0, slots := 0, locals := 44 } : Room)).room s m args below meth c H locs 0 0 (MQ below (qi D cI cZ cR A (out.1) (wd_X4_nextOrder cI cZ cR a_t a_t_first a_t_rank a_t_told a_t_beaten a_t_leads a_t_order t_count (out.2))) args s 0 0 A) (F0 m 47 ls []) := by
  obtain ⟨hx, hb, hml, hr, hown, hts, hlocks, hN⟩ := id X
  intro n
  induction n with
  | zero =>
    intro x1 x2 t_order_r hf
    cases (show (none : Option (Int32 × (Nat → Int32))) = some out from hf)
  | succ n ih =>
    intro x1 x2 t_order_r hf H locs hP hD hS ls hl
    rw [F_X4_nextOrder_47] at hf
    refine lv_iload_n hx hb dX4_nextOrder_47 rfl (lv_at hl 2 rfl) ?_
    refine lv_iload_n hx hb dX4_nextOrder_48 rfl (lv_at hl 1 rfl) ?_
    refine lv_icmp_le (tgt := 73) hx hb dX4_nextOrder_49 (by decide) (fun c6 => ?_) (fun c6 => ?_)
    · have hf := ipos c6 hf
      exact w_X4_nextOrder_73 X hK hA x1 x2 t_order_r hf _ _ hP hD hS _ (lv_sub hl [0, 1, 2] rfl)
    · have hf := ineg c6 hf
      refine lv_aload_n hx hb dX4_nextOrder_52 rfl (lv_at hl 0 rfl) ?_
      refine va_get (D := D) (ci := 4) (v := .ref a_t_order) (C := RX4) (T := TX4) (N := 7) hx hb hts in_X4_nextOrder_X4 hown hK hP 0 rfl rfl 5 (by decide) (hts (.fieldLink RX4 27 "DivisionHall$Motions" "order" "[I") (by decide +kernel)) (fun _ h9 => h9) rfl dX4_nextOrder_53 ?_
      refine lv_iload_n hx hb dX4_nextOrder_56 rfl (lv_at hl 2 rfl) ?_
      obtain ⟨hi7, hf⟩ := gin_s hf
      refine va_iald hx hb hK hP 1 0 rfl rfl hi7 dX4_nextOrder_57 ?_
      refine lv_aload_n hx hb dX4_nextOrder_58 rfl (lv_at hl 0 rfl) ?_
      refine va_get (D := D) (ci := 4) (v := .ref a_t_order) (C := RX4) (T := TX4) (N := 7) hx hb hts in_X4_nextOrder_X4 hown hK hP 0 rfl rfl 5 (by decide) (hts (.fieldLink RX4 27 "DivisionHall$Motions" "order" "[I") (by decide +kernel)) (fun _ h9 => h9) rfl dX4_nextOrder_59 ?_
      refine lv_iload_n hx hb dX4_nextOrder_62 rfl (lv_at hl 1 rfl) ?_
      obtain ⟨hi8, hf⟩ := gin_s hf
      refine va_iald hx hb hK hP 1 0 rfl rfl hi8 dX4_nextOrder_63 ?_
      refine lv_icmp_ge (tgt := 73) hx hb dX4_nextOrder_64 (by decide) (fun c9 => ?_) (fun c9 => ?_)
      · have hf := ipos c9 hf
        exact w_X4_nextOrder_73 X hK hA x1 x2 t_order_r hf _ _ hP hD hS _ (lv_sub hl [0, 1, 2] rfl)
      · have hf := ineg c9 hf
        refine lv_iinc (v := (x2 + (-1 : Int32))) (lv' := [(2, .int (x2 + (-1 : Int32))), (0, .ref a_t), (1, .int x1)]) hx hb dX4_nextOrder_67 hl (k := 2) rfl rfl (by decide) rfl (fun ls hl => ?_)
        refine lv_goto (tgt := 47) hx hb dX4_nextOrder_70 (by decide) ?_
        exact ih x1 (x2 + (-1 : Int32)) t_order_r hf _ _ hP hD hS _ (lv_sub hl [1, 2, 0] rfl)
set_option maxHeartbeats 4000000 in
set_option maxRecDepth 100000 in
theorem w_X4_nextOrder_34 {p : Program} {l : Launch} {e : Env} {s : State} {m : MethodId} {args : Array Value} {below : List Frame} {meth : Method} {c : Code} {D : va_G} {cI cZ cR : ClassId} {A : Nat → Prop} {a_t a_t_first a_t_rank a_t_told a_t_beaten a_t_leads a_t_order : Nat} {t_count : Int32} {out : Int32 × (Nat → Int32)} (X : cx p s m args meth c cX4_nextOrder 5 (some .boolean) RX4 wsX4_nextOrder) (hK : va_K D vwCl (ty3 cI cZ cR) s) (hA : ∀ q, s.heap.size ≤ q → A q) : ∀ (x1 : Int32) (t_order_r : Nat → Int32), F_X4_nextOrder_34 t_count x1 t_order_r = some out → ∀ (H : Heap) (locs : List Loc), va_P D vwCl (wd_X4_nextOrder cI cZ cR a_t a_t_first a_t_rank a_t_told a_t_beaten a_t_leads a_t_order t_count t_order_r) H → va_D A (wd_X4_nextOrder cI cZ cR a_t a_t_first a_t_rank a_t_told a_t_beaten a_t_leads a_t_order t_count t_order_r) → va_S A s.heap H locs → ∀ (ls : Array Slot), lv_has ls 5 [(0, .ref a_t), (1, .int x1)] → W p l e (headSpec wsX4_nextOrder ({ frames := 2, cells := 0, slots := 0, locals := 44 } : Room)).room s m args below meth c H locs 0 0 (MQ below (qi D cI cZ cR A (out.1) (wd_X4_nextOrder cI cZ cR a_t a_t_first a_t_rank a_t_told a_t_beaten a_t_leads a_t_order t_count (out.2))) args s 0 0 A) (F0 m 34 ls []) := by
  obtain ⟨hx, hb, hml, hr, hown, hts, hlocks, hN⟩ := id X
  intro x1 t_order_r hf H locs hP hD hS ls hl
  unfold F_X4_nextOrder_34 at hf
  refine lv_iload_n hx hb dX4_nextOrder_34 rfl (lv_at hl 1 rfl) ?_
  refine lv_if_ge (tgt := 40) hx hb dX4_nextOrder_35 (by decide) (fun c5 => ?_) (fun c5 => ?_)
  · have hf := ipos c5 hf
    refine lv_aload_n hx hb dX4_nextOrder_40 rfl (lv_at hl 0 rfl) ?_
    refine va_get (D := D) (ci := 4) (v := .int t_count) (C := RX4) (T := TX4) (N := 7) hx hb hts in_X4_nextOrder_X4 hown hK hP 0 rfl rfl 6 (by decide) (hts (.fieldLink RX4 65 "DivisionHall$Motions" "count" "I") (by decide +kernel)) (fun _ h9 => h9) rfl dX4_nextOrder_41 ?_
    refine lv_iconst (v := (1 : Int32)) hx hb dX4_nextOrder_44 (by decide) ?_
    refine lv_isub hx hb dX4_nextOrder_45 ?_
    refine lv_istore_n (lv' := [(2, .int (t_count - (1 : Int32))), (0, .ref a_t), (1, .int x1)]) hx hb dX4_nextOrder_46 rfl hl (by decide) rfl (fun ls hl => ?_)
    exact w_X4_nextOrder_47 X hK hA _ x1 (t_count - (1 : Int32)) t_order_r hf _ _ hP hD hS _ (lv_sub hl [1, 2, 0] rfl)
  · have hf := ineg c5 hf
    refine lv_iconst (v := (0 : Int32)) hx hb dX4_nextOrder_38 (by decide) ?_
    cases hf
    exact retz (Or.inl rfl) X hK hP hD hS dX4_nextOrder_39
set_option maxHeartbeats 4000000 in
set_option maxRecDepth 100000 in
theorem w_X4_nextOrder_7 {p : Program} {l : Launch} {e : Env} {s : State} {m : MethodId} {args : Array Value} {below : List Frame} {meth : Method} {c : Code} {D : va_G} {cI cZ cR : ClassId} {A : Nat → Prop} {a_t a_t_first a_t_rank a_t_told a_t_beaten a_t_leads a_t_order : Nat} {t_count : Int32} {out : Int32 × (Nat → Int32)} (X : cx p s m args meth c cX4_nextOrder 5 (some .boolean) RX4 wsX4_nextOrder) (hK : va_K D vwCl (ty3 cI cZ cR) s) (hA : ∀ q, s.heap.size ≤ q → A q) : ∀ (n : Nat) (x1 : Int32) (t_order_r : Nat → Int32), F_X4_nextOrder_7 t_count n x1 t_order_r = some out → ∀ (H : Heap) (locs : List Loc), va_P D vwCl (wd_X4_nextOrder cI cZ cR a_t a_t_first a_t_rank a_t_told a_t_beaten a_t_leads a_t_order t_count t_order_r) H → va_D A (wd_X4_nextOrder cI cZ cR a_t a_t_first a_t_rank a_t_told a_t_beaten a_t_leads a_t_order t_count t_order_r) → va_S A s.heap H locs → ∀ (ls : Array Slot), lv_has ls 5 [(0, .ref a_t), (1, .int x1)] → W p l e (headSpec wsX4_nextOrder ({ frames := 2, cells := 0, slots := 0, locals := 44 } : Room)).room s m args below meth c H locs 0 0 (MQ below (qi D cI cZ cR A (out.1) (wd_X4_nextOrder cI cZ cR a_t a_t_first a_t_rank a_t_told a_t_beaten a_t_leads a_t_order t_count (out.2))) args s 0 0 A) (F0 m 7 ls []) := by
  obtain ⟨hx, hb, hml, hr, hown, hts, hlocks, hN⟩ := id X
  intro n
  induction n with
  | zero =>
    intro x1 t_order_r hf
    cases (show (none : Option (Int32 × (Nat → Int32))) = some out from hf)
  | succ n ih =>
    intro x1 t_order_r hf H locs hP hD hS ls hl
    rw [F_X4_nextOrder_7] at hf
    refine lv_iload_n hx hb dX4_nextOrder_7 rfl (lv_at hl 1 rfl) ?_
    refine lv_if_lt (tgt := 34) hx hb dX4_nextOrder_8 (by decide) (fun c1 => ?_) (fun c1 => ?_)
    · have hf := ipos c1 hf
      exact w_X4_nextOrder_34 X hK hA x1 t_order_r hf _ _ hP hD hS _ (lv_sub hl [0, 1] rfl)
    · have hf := ineg c1 hf
      refine lv_aload_n hx hb dX4_nextOrder_11 rfl (lv_at hl 0 rfl) ?_
      refine va_get (D := D) (ci := 4) (v := .ref a_t_order) (C := RX4) (T := TX4) (N := 7) hx hb hts in_X4_nextOrder_X4 hown hK hP 0 rfl rfl 5 (by decide) (hts (.fieldLink RX4 27 "DivisionHall$Motions" "order" "[I") (by decide +kernel)) (fun _ h9 => h9) rfl dX4_nextOrder_12 ?_
      refine lv_iload_n hx hb dX4_nextOrder_15 rfl (lv_at hl 1 rfl) ?_
      obtain ⟨hi2, hf⟩ := gin_s hf
      refine va_iald hx hb hK hP 1 0 rfl rfl hi2 dX4_nextOrder_16 ?_
      refine lv_aload_n hx hb dX4_nextOrder_17 rfl (lv_at hl 0 rfl) ?_
      refine va_get (D := D) (ci := 4) (v := .ref a_t_order) (C := RX4) (T := TX4) (N := 7) hx hb hts in_X4_nextOrder_X4 hown hK hP 0 rfl rfl 5 (by decide) (hts (.fieldLink RX4 27 "DivisionHall$Motions" "order" "[I") (by decide +kernel)) (fun _ h9 => h9) rfl dX4_nextOrder_18 ?_
      refine lv_iload_n hx hb dX4_nextOrder_21 rfl (lv_at hl 1 rfl) ?_
      refine lv_iconst (v := (1 : Int32)) hx hb dX4_nextOrder_22 (by decide) ?_
      refine lv_iadd hx hb dX4_nextOrder_23 ?_
      obtain ⟨hi3, hf⟩ := gin_s hf
      refine va_iald hx hb hK hP 1 0 rfl rfl hi3 dX4_nextOrder_24 ?_
      refine lv_icmp_le (tgt := 34) hx hb dX4_nextOrder_25 (by decide) (fun c4 => ?_) (fun c4 => ?_)
      · have hf := ipos c4 hf
        exact w_X4_nextOrder_34 X hK hA x1 t_order_r hf _ _ hP hD hS _ (lv_sub hl [0, 1] rfl)
      · have hf := ineg c4 hf
        refine lv_iinc (v := (x1 + (-1 : Int32))) (lv' := [(1, .int (x1 + (-1 : Int32))), (0, .ref a_t)]) hx hb dX4_nextOrder_28 hl (k := 1) rfl rfl (by decide) rfl (fun ls hl => ?_)
        refine lv_goto (tgt := 7) hx hb dX4_nextOrder_31 (by decide) ?_
        exact ih (x1 + (-1 : Int32)) t_order_r hf _ _ hP hD hS _ (lv_sub hl [1, 0] rfl)
set_option maxHeartbeats 4000000 in
set_option maxRecDepth 100000 in
theorem c_X4_nextOrder (l : Launch) (D : va_G) (cI cZ cR : ClassId) {a_t a_t_first a_t_rank a_t_told a_t_beaten a_t_leads a_t_order : Nat} {t_count : Int32} {t_order_r : Nat → Int32} {sz : Nat} {out : Int32 × (Nat → Int32)} (hf : F_X4_nextOrder t_count t_order_r = some out) : CI l yX4_nextOrder wsX4_nextOrder ({ frames := 2, cells := 0, slots := 0, locals := 44 } : Room) D cI cZ cR [.ref a_t] (wd_X4_nextOrder cI cZ cR a_t a_t_first a_t_rank a_t_told a_t_beaten a_t_leads a_t_order t_count t_order_r) sz (out.1) (wd_X4_nextOrder cI cZ cR a_t a_t_first a_t_rank a_t_told a_t_beaten a_t_leads a_t_order t_count (out.2)) := by
  refine met_of (Qf := fun A => qi D cI cZ cR A (out.1) (wd_X4_nextOrder cI cZ cR a_t a_t_first a_t_rank a_t_told a_t_beaten a_t_leads a_t_order t_count (out.2))) RX4 (by decide +kernel) rfl rfl (Nat.le_of_ble_eq_true rfl) ?_
  intro p e s m below meth c A X hK hA hP hD hS ls hl
  have hl : lv_has ls 5 [(0, .ref a_t)] := hl
  obtain ⟨hx, hb, hml, hr, hown, hts, hlocks, hN⟩ := id X
  unfold F_X4_nextOrder at hf
  refine lv_aload_n hx hb dX4_nextOrder_0 rfl (lv_at hl 0 rfl) ?_
  refine va_get (D := D) (ci := 4) (v := .int t_count) (C := RX4) (T := TX4) (N := 7) hx hb hts in_X4_nextOrder_X4 hown hK hP 0 rfl rfl 6 (by decide) (hts (.fieldLink RX4 65 "DivisionHall$Motions" "count" "I") (by decide +kernel)) (fun _ h9 => h9) rfl dX4_nextOrder_1 ?_
  refine lv_iconst (v := (2 : Int32)) hx hb dX4_nextOrder_4 (by decide) ?_
  refine lv_isub hx hb dX4_nextOrder_5 ?_
  refine lv_istore_n (lv' := [(1, .int (t_count - (2 : Int32))), (0, .ref a_t)]) hx hb dX4_nextOrder_6 rfl hl (by decide) rfl (fun ls hl => ?_)
  exact w_X4_nextOrder_7 X hK hA _ (t_count - (2 : Int32)) t_order_r hf _ _ hP hD hS _ (lv_sub hl [1, 0] rfl)

abbrev wd_X4_ordersFor (cI cZ cR : ClassId) (a_t a_t_first a_t_rank a_t_told a_t_beaten a_t_leads a_t_order : Nat) (t_count : Int32) (t_beaten_r : Nat → Int32) (t_leads_r : Nat → Int32) (t_order_r : Nat → Int32) : va_W := [(a_t, oB 4 [.ref a_t_first, .ref a_t_rank, .ref a_t_told, .ref a_t_beaten, .ref a_t_leads, .ref a_t_order, .int t_count]), (a_t_beaten, aI cI 6 t_beaten_r), (a_t_leads, aI cI 6 t_leads_r), (a_t_order, aI cI 6 t_order_r)]
def F_X4_ordersFor_13 (x1 : Int32) (x3 : Int32) (t_beaten_r : Nat → Int32) : Nat → Int32 → Int32 → Int32 → Int32 → (Nat → Int32) → (Nat → Int32) → Option (Int32 × Int32 × (Nat → Int32) × (Nat → Int32))
  | 0, _, _, _, _, _, _ => none
  | n + 1, x4, x5, x6, t_count, t_leads_r, t_order_r => (if (720 : Int32) ≤ x6 then (some (x4, t_count, t_leads_r, t_order_r)) else (if x5 = 0 then (some (x4, t_count, t_leads_r, t_order_r)) else ((F_X4_outcome x3 t_count t_beaten_r t_leads_r t_order_r).bind (fun r5 => (if (r5.1) = x1 then ((F_X4_nextOrder t_count t_order_r).bind (fun r10 => (F_X4_ordersFor_13 x1 x3 t_beaten_r n (x4 + (1 : Int32)) (r10.1) (x6 + (1 : Int32)) t_count (r5.2) (r10.2)))) else ((F_X4_nextOrder t_count t_order_r).bind (fun r8 => (F_X4_ordersFor_13 x1 x3 t_beaten_r n x4 (r8.1) (x6 + (1 : Int32)) t_count (r5.2) (r8.2)))))))))
def F_X4_ordersFor (x1 : Int32) (x2 : Int32) (x3 : Int32) (t_count : Int32) (t_beaten_r : Nat → Int32) (t_leads_r : Nat → Int32) (t_order_r : Nat → Int32) : Option (Int32 × Int32 × (Nat → Int32) × (Nat → Int32)) := ((F_X4_firstOrder x2 t_count t_order_r).bind (fun r1 => (F_X4_ordersFor_13 x1 x3 t_beaten_r FU (0 : Int32) (r1.1) (0 : Int32) (r1.2.1) t_leads_r (r1.2.2))))
set_option maxHeartbeats 4000000 in
set_option maxRecDepth 100000 in
theorem w_X4_ordersFor_13 {p : Program} {l : Launch} {e : Env} {s : State} {m : MethodId} {args : Array Value} {below : List Frame} {meth : Method} {c : Code} {D : va_G} {cI cZ cR : ClassId} {A : Nat → Prop} {a_t a_t_first a_t_rank a_t_told a_t_beaten a_t_leads a_t_order : Nat} {t_beaten_r : Nat → Int32} {x1 : Int32} {x3 : Int32} {out : Int32 × Int32 × (Nat → Int32) × (Nat → Int32)} (X : cx p s m args meth c cX4_ordersFor 7 (some .int) RX4 wsX4_ordersFor) (hK : va_K D vwCl (ty3 cI cZ cR) s) (hA : ∀ q, s.heap.size ≤ q → A q) : ∀ (n : Nat) (x4 : Int32) (x5 : Int32) (x6 : Int32) (t_count : Int32) (t_leads_r : Nat → Int32) (t_order_r : Nat → Int32), F_X4_ordersFor_13 x1 x3 t_beaten_r n x4 x5 x6 t_count t_leads_r t_order_r = some out → ∀ (H : Heap) (locs : List Loc), va_P D vwCl (wd_X4_ordersFor cI cZ cR a_t a_t_first a_t_rank a_t_told a_t_beaten a_t_leads a_t_order t_count t_beaten_r t_leads_r t_order_r) H → va_D A (wd_X4_ordersFor cI cZ cR a_t a_t_first a_t_rank a_t_told a_t_beaten a_t_leads a_t_order t_count t_beaten_r t_leads_r t_order_r) → va_S A s.heap H locs → ∀ (ls : Array Slot), lv_has ls 7 [(0, .ref a_t), (1, .int x1), (3, .int x3), (4, .int x4), (5, .int x5), (6, .int x6)] → W p l e (headSpec wsX4_ordersFor ({ frames := 4, cells := 0, slots := 0, locals := 87 } : Room)).room s m args below meth c H locs 0 0 (MQ below (qi D cI cZ cR A (out.1) (wd_X4_ordersFor cI cZ cR a_t a_t_first a_t_rank a_t_told a_t_beaten a_t_leads a_t_order (out.2.1) t_beaten_r (out.2.2.1) (out.2.2.2))) args s 0 0 A) (F0 m 13 ls []) := by
  obtain ⟨hx, hb, hml, hr, hown, hts, hlocks, hN⟩ := id X
  intro n
  induction n with
  | zero =>
    intro x4 x5 x6 t_count t_leads_r t_order_r hf
    cases (show (none : Option (Int32 × Int32 × (Nat → Int32) × (Nat → Int32))) = some out from hf)
  | succ n ih =>
    intro x4 x5 x6 t_count t_leads_r t_order_r hf H locs hP hD hS ls hl
    rw [F_X4_ordersFor_13] at hf
    refine lv_iload hx hb dX4_ordersFor_13 (lv_at hl 5 rfl) ?_
    refine lv_sipush (v := (720 : Int32)) hx hb dX4_ordersFor_15 (by decide) ?_
    refine lv_icmp_ge (tgt := 50) hx hb dX4_ordersFor_18 (by decide) (fun c3 => ?_) (fun c3 => ?_)
    · have hf := ipos c3 hf
      refine lv_iload hx hb dX4_ordersFor_50 (lv_at hl 3 rfl) ?_
      cases hf
      exact reti X hK hP hD hS dX4_ordersFor_52
    · have hf := ineg c3 hf
      refine lv_iload hx hb dX4_ordersFor_21 (lv_at hl 4 rfl) ?_
      refine lv_if_eq (tgt := 50) hx hb dX4_ordersFor_23 (by decide) (fun c4 => ?_) (fun c4 => ?_)
      · have hf := ipos c4 hf
        refine lv_iload hx hb dX4_ordersFor_50 (lv_at hl 3 rfl) ?_
        cases hf
        exact reti X hK hP hD hS dX4_ordersFor_52
      · have hf := ineg c4 hf
        refine lv_aload_n hx hb dX4_ordersFor_26 rfl (lv_at hl 0 rfl) ?_
        refine lv_iload_n hx hb dX4_ordersFor_27 rfl (lv_at hl 2 rfl) ?_
        obtain ⟨r5, hr6, hf⟩ := bnd hf
        refine wcalli (D := D) (cI := cI) (cZ := cZ) (cR := cR) (wc := (wd_X4_outcome cI cZ cR a_t a_t_first a_t_rank a_t_told a_t_beaten a_t_leads a_t_order t_count t_beaten_r t_leads_r t_order_r)) (w' := (wd_X4_outcome cI cZ cR a_t a_t_first a_t_rank a_t_told a_t_beaten a_t_leads a_t_order t_count t_beaten_r (r5.2) t_order_r)) [0, 1, 2, 3] hP hD hS hA rfl rfl rfl (rnV (As := [.int x3]) (ci := 4) (q0 := 0) X [0, 1, 2, 3] hK hP hD rfl rfl rfl rfl (c_X4_outcome l D cI cZ cR hr6) (cwV 1 hts gX4_ordersFor_X4_outcome rfl rfl rfl (by decide +kernel) ⟨Nat.le_of_ble_eq_true rfl, Nat.le_of_ble_eq_true rfl⟩) rfl hl.1 rfl (Nat.le_of_ble_eq_true rfl) dX4_ordersFor_28) (fun H locs hP hD hS => ?_)
        have hP : va_P D vwCl (wd_X4_ordersFor cI cZ cR a_t a_t_first a_t_rank a_t_told a_t_beaten a_t_leads a_t_order t_count t_beaten_r (r5.2) t_order_r) H := hP
        have hD : va_D A (wd_X4_ordersFor cI cZ cR a_t a_t_first a_t_rank a_t_told a_t_beaten a_t_leads a_t_order t_count t_beaten_r (r5.2) t_order_r) := hD
        refine lv_iload_n hx hb dX4_ordersFor_31 rfl (lv_at hl 1 rfl) ?_
        refine lv_icmp_ne (tgt := 38) hx hb dX4_ordersFor_32 (by decide) (fun c7 => ?_) (fun c7 => ?_)
        · have hf := ineg c7 hf
          refine lv_aload_n hx hb dX4_ordersFor_38 rfl (lv_at hl 0 rfl) ?_
          obtain ⟨r8, hr9, hf⟩ := bnd hf
          refine wcalli (D := D) (cI := cI) (cZ := cZ) (cR := cR) (wc := (wd_X4_nextOrder cI cZ cR a_t a_t_first a_t_rank a_t_told a_t_beaten a_t_leads a_t_order t_count t_order_r)) (w' := (wd_X4_nextOrder cI cZ cR a_t a_t_first a_t_rank a_t_told a_t_beaten a_t_leads a_t_order t_count (r8.2))) [0, 3] hP hD hS hA rfl rfl rfl (rnV (As := []) (ci := 4) (q0 := 0) X [0, 3] hK hP hD rfl rfl rfl rfl (c_X4_nextOrder l D cI cZ cR hr9) (cwV 0 hts gX4_ordersFor_X4_nextOrder rfl rfl rfl (by decide +kernel) ⟨Nat.le_of_ble_eq_true rfl, Nat.le_of_ble_eq_true rfl⟩) rfl hl.1 rfl (Nat.le_of_ble_eq_true rfl) dX4_ordersFor_39) (fun H locs hP hD hS => ?_)
          have hP : va_P D vwCl (wd_X4_ordersFor cI cZ cR a_t a_t_first a_t_rank a_t_told a_t_beaten a_t_leads a_t_order t_count t_beaten_r (r5.2) (r8.2)) H := hP
          have hD : va_D A (wd_X4_ordersFor cI cZ cR a_t a_t_first a_t_rank a_t_told a_t_beaten a_t_leads a_t_order t_count t_beaten_r (r5.2) (r8.2)) := hD
          refine lv_istore (lv' := [(5, .int (r8.1)), (0, .ref a_t), (1, .int x1), (3, .int x3), (4, .int x4), (6, .int x6)]) hx hb dX4_ordersFor_42 hl (by decide) rfl (fun ls hl => ?_)
          refine lv_iinc (v := (x6 + (1 : Int32))) (lv' := [(6, .int (x6 + (1 : Int32))), (5, .int (r8.1)), (0, .ref a_t), (1, .int x1), (3, .int x3), (4, .int x4)]) hx hb dX4_ordersFor_44 hl (k := 5) rfl rfl (by decide) rfl (fun ls hl => ?_)
          refine lv_goto (tgt := 13) hx hb dX4_ordersFor_47 (by decide) ?_
          exact ih x4 (r8.1) (x6 + (1 : Int32)) t_count (r5.2) (r8.2) hf _ _ hP hD hS _ (lv_sub hl [2, 3, 4, 5, 1, 0] rfl)
        · have hf := ipos c7 hf
          refine lv_iinc (v := (x4 + (1 : Int32))) (lv' := [(4, .int (x4 + (1 : Int32))), (0, .ref a_t), (1, .int x1), (3, .int x3), (5, .int x5), (6, .int x6)]) hx hb dX4_ordersFor_35 hl (k := 3) rfl rfl (by decide) rfl (fun ls hl => ?_)
          refine lv_aload_n hx hb dX4_ordersFor_38 rfl (lv_at hl 1 rfl) ?_
          obtain ⟨r10, hr11, hf⟩ := bnd hf
          refine wcalli (D := D) (cI := cI) (cZ := cZ) (cR := cR) (wc := (wd_X4_nextOrder cI cZ cR a_t a_t_first a_t_rank a_t_told a_t_beaten a_t_leads a_t_order t_count t_order_r)) (w' := (wd_X4_nextOrder cI cZ cR a_t a_t_first a_t_rank a_t_told a_t_beaten a_t_leads a_t_order t_count (r10.2))) [0, 3] hP hD hS hA rfl rfl rfl (rnV (As := []) (ci := 4) (q0 := 0) X [0, 3] hK hP hD rfl rfl rfl rfl (c_X4_nextOrder l D cI cZ cR hr11) (cwV 0 hts gX4_ordersFor_X4_nextOrder rfl rfl rfl (by decide +kernel) ⟨Nat.le_of_ble_eq_true rfl, Nat.le_of_ble_eq_true rfl⟩) rfl hl.1 rfl (Nat.le_of_ble_eq_true rfl) dX4_ordersFor_39) (fun H locs hP hD hS => ?_)
          have hP : va_P D vwCl (wd_X4_ordersFor cI cZ cR a_t a_t_first a_t_rank a_t_told a_t_beaten a_t_leads a_t_order t_count t_beaten_r (r5.2) (r10.2)) H := hP
          have hD : va_D A (wd_X4_ordersFor cI cZ cR a_t a_t_first a_t_rank a_t_told a_t_beaten a_t_leads a_t_order t_count t_beaten_r (r5.2) (r10.2)) := hD
          refine lv_istore (lv' := [(5, .int (r10.1)), (4, .int (x4 + (1 : Int32))), (0, .ref a_t), (1, .int x1), (3, .int x3), (6, .int x6)]) hx hb dX4_ordersFor_42 hl (by decide) rfl (fun ls hl => ?_)
          refine lv_iinc (v := (x6 + (1 : Int32))) (lv' := [(6, .int (x6 + (1 : Int32))), (5, .int (r10.1)), (4, .int (x4 + (1 : Int32))), (0, .ref a_t), (1, .int x1), (3, .int x3)]) hx hb dX4_ordersFor_44 hl (k := 5) rfl rfl (by decide) rfl (fun ls hl => ?_)
          refine lv_goto (tgt := 13) hx hb dX4_ordersFor_47 (by decide) ?_
          exact ih (x4 + (1 : Int32)) (r10.1) (x6 + (1 : Int32)) t_count (r5.2) (r10.2) hf _ _ hP hD hS _ (lv_sub hl [3, 4, 5, 2, 1, 0] rfl)
set_option maxHeartbeats 4000000 in
set_option maxRecDepth 100000 in
theorem c_X4_ordersFor (l : Launch) (D : va_G) (cI cZ cR : ClassId) {a_t a_t_first a_t_rank a_t_told a_t_beaten a_t_leads a_t_order : Nat} {t_count : Int32} {t_beaten_r : Nat → Int32} {t_leads_r : Nat → Int32} {t_order_r : Nat → Int32} {x1 : Int32} {x2 : Int32} {x3 : Int32} {sz : Nat} {out : Int32 × Int32 × (Nat → Int32) × (Nat → Int32)} (hf : F_X4_ordersFor x1 x2 x3 t_count t_beaten_r t_leads_r t_order_r = some out) : CI l yX4_ordersFor wsX4_ordersFor ({ frames := 4, cells := 0, slots := 0, locals := 87 } : Room) D cI cZ cR [.ref a_t, .int x1, .int x2, .int x3] (wd_X4_ordersFor cI cZ cR a_t a_t_first a_t_rank a_t_told a_t_beaten a_t_leads a_t_order t_count t_beaten_r t_leads_r t_order_r) sz (out.1) (wd_X4_ordersFor cI cZ cR a_t a_t_first a_t_rank a_t_told a_t_beaten a_t_leads a_t_order (out.2.1) t_beaten_r (out.2.2.1) (out.2.2.2)) := by
  refine met_of (Qf := fun A => qi D cI cZ cR A (out.1) (wd_X4_ordersFor cI cZ cR a_t a_t_first a_t_rank a_t_told a_t_beaten a_t_leads a_t_order (out.2.1) t_beaten_r (out.2.2.1) (out.2.2.2))) RX4 (by decide +kernel) rfl rfl (Nat.le_of_ble_eq_true rfl) ?_
  intro p e s m below meth c A X hK hA hP hD hS ls hl
  have hl : lv_has ls 7 [(0, .ref a_t), (1, .int x1), (2, .int x2), (3, .int x3)] := hl
  obtain ⟨hx, hb, hml, hr, hown, hts, hlocks, hN⟩ := id X
  unfold F_X4_ordersFor at hf
  refine lv_iconst (v := (0 : Int32)) hx hb dX4_ordersFor_0 (by decide) ?_
  refine lv_istore (lv' := [(4, .int (0 : Int32)), (0, .ref a_t), (1, .int x1), (2, .int x2), (3, .int x3)]) hx hb dX4_ordersFor_1 hl (by decide) rfl (fun ls hl => ?_)
  refine lv_aload_n hx hb dX4_ordersFor_3 rfl (lv_at hl 1 rfl) ?_
  refine lv_iload_n hx hb dX4_ordersFor_4 rfl (lv_at hl 3 rfl) ?_
  obtain ⟨r1, hr2, hf⟩ := bnd hf
  refine wcalli (D := D) (cI := cI) (cZ := cZ) (cR := cR) (wc := (wd_X4_firstOrder cI cZ cR a_t a_t_first a_t_rank a_t_told a_t_beaten a_t_leads a_t_order t_count t_order_r)) (w' := (wd_X4_firstOrder cI cZ cR a_t a_t_first a_t_rank a_t_told a_t_beaten a_t_leads a_t_order (r1.2.1) (r1.2.2))) [0, 3] hP hD hS hA rfl rfl rfl (rnV (As := [.int x2]) (ci := 4) (q0 := 0) X [0, 3] hK hP hD rfl rfl rfl rfl (c_X4_firstOrder l D cI cZ cR hr2) (cwV 1 hts gX4_ordersFor_X4_firstOrder rfl rfl rfl (by decide +kernel) ⟨Nat.le_of_ble_eq_true rfl, Nat.le_of_ble_eq_true rfl⟩) rfl hl.1 rfl (Nat.le_of_ble_eq_true rfl) dX4_ordersFor_5) (fun H locs hP hD hS => ?_)
  have hP : va_P D vwCl (wd_X4_ordersFor cI cZ cR a_t a_t_first a_t_rank a_t_told a_t_beaten a_t_leads a_t_order (r1.2.1) t_beaten_r t_leads_r (r1.2.2)) H := hP
  have hD : va_D A (wd_X4_ordersFor cI cZ cR a_t a_t_first a_t_rank a_t_told a_t_beaten a_t_leads a_t_order (r1.2.1) t_beaten_r t_leads_r (r1.2.2)) := hD
  refine lv_istore (lv' := [(5, .int (r1.1)), (4, .int (0 : Int32)), (0, .ref a_t), (1, .int x1), (2, .int x2), (3, .int x3)]) hx hb dX4_ordersFor_8 hl (by decide) rfl (fun ls hl => ?_)
  refine lv_iconst (v := (0 : Int32)) hx hb dX4_ordersFor_10 (by decide) ?_
  refine lv_istore (lv' := [(6, .int (0 : Int32)), (5, .int (r1.1)), (4, .int (0 : Int32)), (0, .ref a_t), (1, .int x1), (2, .int x2), (3, .int x3)]) hx hb dX4_ordersFor_11 hl (by decide) rfl (fun ls hl => ?_)
  exact w_X4_ordersFor_13 X hK hA _ (0 : Int32) (r1.1) (0 : Int32) (r1.2.1) t_leads_r (r1.2.2) hf _ _ hP hD hS _ (lv_sub hl [3, 4, 6, 2, 1, 0] rfl)

abbrev wd_X4_firstFor (cI cZ cR : ClassId) (a_t a_t_first a_t_rank a_t_told a_t_beaten a_t_leads a_t_order : Nat) (t_count : Int32) (t_beaten_r : Nat → Int32) (t_leads_r : Nat → Int32) (t_order_r : Nat → Int32) : va_W := [(a_t, oB 4 [.ref a_t_first, .ref a_t_rank, .ref a_t_told, .ref a_t_beaten, .ref a_t_leads, .ref a_t_order, .int t_count]), (a_t_beaten, aI cI 6 t_beaten_r), (a_t_leads, aI cI 6 t_leads_r), (a_t_order, aI cI 6 t_order_r)]
def F_X4_firstFor_10 (x1 : Int32) (x3 : Int32) (t_beaten_r : Nat → Int32) : Nat → Int32 → Int32 → Int32 → (Nat → Int32) → (Nat → Int32) → Option (Int32 × Int32 × (Nat → Int32) × (Nat → Int32))
  | 0, _, _, _, _, _ => none
  | n + 1, x4, x5, t_count, t_leads_r, t_order_r => (if (720 : Int32) ≤ x5 then (some ((-1 : Int32), t_count, t_leads_r, t_order_r)) else (if x4 = 0 then (some ((-1 : Int32), t_count, t_leads_r, t_order_r)) else ((F_X4_outcome x3 t_count t_beaten_r t_leads_r t_order_r).bind (fun r5 => (if (r5.1) = x1 then ((F_X4_toDigits t_count t_order_r).bind (fun r10 => (some (r10, t_count, (r5.2), t_order_r)))) else ((F_X4_nextOrder t_count t_order_r).bind (fun r8 => (F_X4_firstFor_10 x1 x3 t_beaten_r n (r8.1) (x5 + (1 : Int32)) t_count (r5.2) (r8.2)))))))))
def F_X4_firstFor (x1 : Int32) (x2 : Int32) (x3 : Int32) (t_count : Int32) (t_beaten_r : Nat → Int32) (t_leads_r : Nat → Int32) (t_order_r : Nat → Int32) : Option (Int32 × Int32 × (Nat → Int32) × (Nat → Int32)) := ((F_X4_firstOrder x2 t_count t_order_r).bind (fun r1 => (F_X4_firstFor_10 x1 x3 t_beaten_r FU (r1.1) (0 : Int32) (r1.2.1) t_leads_r (r1.2.2))))
set_option maxHeartbeats 4000000 in
set_option maxRecDepth 100000 in
theorem w_X4_firstFor_10 {p : Program} {l : Launch} {e : Env} {s : State} {m : MethodId} {args : Array Value} {below : List Frame} {meth : Method} {c : Code} {D : va_G} {cI cZ cR : ClassId} {A : Nat → Prop} {a_t a_t_first a_t_rank a_t_told a_t_beaten a_t_leads a_t_order : Nat} {t_beaten_r : Nat → Int32} {x1 : Int32} {x3 : Int32} {out : Int32 × Int32 × (Nat → Int32) × (Nat → Int32)} (X : cx p s m args meth c cX4_firstFor 6 (some .int) RX4 wsX4_firstFor) (hK : va_K D vwCl (ty3 cI cZ cR) s) (hA : ∀ q, s.heap.size ≤ q → A q) : ∀ (n : Nat) (x4 : Int32) (x5 : Int32) (t_count : Int32) (t_leads_r : Nat → Int32) (t_order_r : Nat → Int32), F_X4_firstFor_10 x1 x3 t_beaten_r n x4 x5 t_count t_leads_r t_order_r = some out → ∀ (H : Heap) (locs : List Loc), va_P D vwCl (wd_X4_firstFor cI cZ cR a_t a_t_first a_t_rank a_t_told a_t_beaten a_t_leads a_t_order t_count t_beaten_r t_leads_r t_order_r) H → va_D A (wd_X4_firstFor cI cZ cR a_t a_t_first a_t_rank a_t_told a_t_beaten a_t_leads a_t_order t_count t_beaten_r t_leads_r t_order_r) → va_S A s.heap H locs → ∀ (ls : Array Slot), lv_has ls 6 [(0, .ref a_t), (1, .int x1), (3, .int x3), (4, .int x4), (5, .int x5)] → W p l e (headSpec wsX4_firstFor ({ frames := 4, cells := 0, slots := 0, locals := 87 } : Room)).room s m args below meth c H locs 0 0 (MQ below (qi D cI cZ cR A (out.1) (wd_X4_firstFor cI cZ cR a_t a_t_first a_t_rank a_t_told a_t_beaten a_t_leads a_t_order (out.2.1) t_beaten_r (out.2.2.1) (out.2.2.2))) args s 0 0 A) (F0 m 10 ls []) := by
  obtain ⟨hx, hb, hml, hr, hown, hts, hlocks, hN⟩ := id X
  intro n
  induction n with
  | zero =>
    intro x4 x5 t_count t_leads_r t_order_r hf
    cases (show (none : Option (Int32 × Int32 × (Nat → Int32) × (Nat → Int32))) = some out from hf)
  | succ n ih =>
    intro x4 x5 t_count t_leads_r t_order_r hf H locs hP hD hS ls hl
    rw [F_X4_firstFor_10] at hf
    refine lv_iload hx hb dX4_firstFor_10 (lv_at hl 4 rfl) ?_
    refine lv_sipush (v := (720 : Int32)) hx hb dX4_firstFor_12 (by decide) ?_
    refine lv_icmp_ge (tgt := 49) hx hb dX4_firstFor_15 (by decide) (fun c3 => ?_) (fun c3 => ?_)
    · have hf := ipos c3 hf
      refine lv_iconst (v := (-1 : Int32)) hx hb dX4_firstFor_49 (by decide) ?_
      cases hf
      exact reti X hK hP hD hS dX4_firstFor_50
    · have hf := ineg c3 hf
      refine lv_iload hx hb dX4_firstFor_18 (lv_at hl 3 rfl) ?_
      refine lv_if_eq (tgt := 49) hx hb dX4_firstFor_20 (by decide) (fun c4 => ?_) (fun c4 => ?_)
      · have hf := ipos c4 hf
        refine lv_iconst (v := (-1 : Int32)) hx hb dX4_firstFor_49 (by decide) ?_
        cases hf
        exact reti X hK hP hD hS dX4_firstFor_50
      · have hf := ineg c4 hf
        refine lv_aload_n hx hb dX4_firstFor_23 rfl (lv_at hl 0 rfl) ?_
        refine lv_iload_n hx hb dX4_firstFor_24 rfl (lv_at hl 2 rfl) ?_
        obtain ⟨r5, hr6, hf⟩ := bnd hf
        refine wcalli (D := D) (cI := cI) (cZ := cZ) (cR := cR) (wc := (wd_X4_outcome cI cZ cR a_t a_t_first a_t_rank a_t_told a_t_beaten a_t_leads a_t_order t_count t_beaten_r t_leads_r t_order_r)) (w' := (wd_X4_outcome cI cZ cR a_t a_t_first a_t_rank a_t_told a_t_beaten a_t_leads a_t_order t_count t_beaten_r (r5.2) t_order_r)) [0, 1, 2, 3] hP hD hS hA rfl rfl rfl (rnV (As := [.int x3]) (ci := 4) (q0 := 0) X [0, 1, 2, 3] hK hP hD rfl rfl rfl rfl (c_X4_outcome l D cI cZ cR hr6) (cwV 1 hts gX4_firstFor_X4_outcome rfl rfl rfl (by decide +kernel) ⟨Nat.le_of_ble_eq_true rfl, Nat.le_of_ble_eq_true rfl⟩) rfl hl.1 rfl (Nat.le_of_ble_eq_true rfl) dX4_firstFor_25) (fun H locs hP hD hS => ?_)
        have hP : va_P D vwCl (wd_X4_firstFor cI cZ cR a_t a_t_first a_t_rank a_t_told a_t_beaten a_t_leads a_t_order t_count t_beaten_r (r5.2) t_order_r) H := hP
        have hD : va_D A (wd_X4_firstFor cI cZ cR a_t a_t_first a_t_rank a_t_told a_t_beaten a_t_leads a_t_order t_count t_beaten_r (r5.2) t_order_r) := hD
        refine lv_iload_n hx hb dX4_firstFor_28 rfl (lv_at hl 1 rfl) ?_
        refine lv_icmp_ne (tgt := 37) hx hb dX4_firstFor_29 (by decide) (fun c7 => ?_) (fun c7 => ?_)
        · have hf := ineg c7 hf
          refine lv_aload_n hx hb dX4_firstFor_37 rfl (lv_at hl 0 rfl) ?_
          obtain ⟨r8, hr9, hf⟩ := bnd hf
          refine wcalli (D := D) (cI := cI) (cZ := cZ) (cR := cR) (wc := (wd_X4_nextOrder cI cZ cR a_t a_t_first a_t_rank a_t_told a_t_beaten a_t_leads a_t_order t_count t_order_r)) (w' := (wd_X4_nextOrder cI cZ cR a_t a_t_first a_t_rank a_t_told a_t_beaten a_t_leads a_t_order t_count (r8.2))) [0, 3] hP hD hS hA rfl rfl rfl (rnV (As := []) (ci := 4) (q0 := 0) X [0, 3] hK hP hD rfl rfl rfl rfl (c_X4_nextOrder l D cI cZ cR hr9) (cwV 0 hts gX4_firstFor_X4_nextOrder rfl rfl rfl (by decide +kernel) ⟨Nat.le_of_ble_eq_true rfl, Nat.le_of_ble_eq_true rfl⟩) rfl hl.1 rfl (Nat.le_of_ble_eq_true rfl) dX4_firstFor_38) (fun H locs hP hD hS => ?_)
          have hP : va_P D vwCl (wd_X4_firstFor cI cZ cR a_t a_t_first a_t_rank a_t_told a_t_beaten a_t_leads a_t_order t_count t_beaten_r (r5.2) (r8.2)) H := hP
          have hD : va_D A (wd_X4_firstFor cI cZ cR a_t a_t_first a_t_rank a_t_told a_t_beaten a_t_leads a_t_order t_count t_beaten_r (r5.2) (r8.2)) := hD
          refine lv_istore (lv' := [(4, .int (r8.1)), (0, .ref a_t), (1, .int x1), (3, .int x3), (5, .int x5)]) hx hb dX4_firstFor_41 hl (by decide) rfl (fun ls hl => ?_)
          refine lv_iinc (v := (x5 + (1 : Int32))) (lv' := [(5, .int (x5 + (1 : Int32))), (4, .int (r8.1)), (0, .ref a_t), (1, .int x1), (3, .int x3)]) hx hb dX4_firstFor_43 hl (k := 4) rfl rfl (by decide) rfl (fun ls hl => ?_)
          refine lv_goto (tgt := 10) hx hb dX4_firstFor_46 (by decide) ?_
          exact ih (r8.1) (x5 + (1 : Int32)) t_count (r5.2) (r8.2) hf _ _ hP hD hS _ (lv_sub hl [2, 3, 4, 1, 0] rfl)
        · have hf := ipos c7 hf
          refine lv_aload_n hx hb dX4_firstFor_32 rfl (lv_at hl 0 rfl) ?_
          obtain ⟨r10, hr11, hf⟩ := bnd hf
          refine wcalli (D := D) (cI := cI) (cZ := cZ) (cR := cR) (wc := (wd_X4_toDigits cI cZ cR a_t a_t_first a_t_rank a_t_told a_t_beaten a_t_leads a_t_order t_count t_order_r)) (w' := (wd_X4_toDigits cI cZ cR a_t a_t_first a_t_rank a_t_told a_t_beaten a_t_leads a_t_order t_count t_order_r)) [0, 3] hP hD hS hA rfl rfl rfl (rnV (As := []) (ci := 4) (q0 := 0) X [0, 3] hK hP hD rfl rfl rfl rfl (c_X4_toDigits l D cI cZ cR hr11) (cwV 0 hts gX4_firstFor_X4_toDigits rfl rfl rfl (by decide +kernel) ⟨Nat.le_of_ble_eq_true rfl, Nat.le_of_ble_eq_true rfl⟩) rfl hl.1 rfl (Nat.le_of_ble_eq_true rfl) dX4_firstFor_33) (fun H locs hP hD hS => ?_)
          have hP : va_P D vwCl (wd_X4_firstFor cI cZ cR a_t a_t_first a_t_rank a_t_told a_t_beaten a_t_leads a_t_order t_count t_beaten_r (r5.2) t_order_r) H := hP
          have hD : va_D A (wd_X4_firstFor cI cZ cR a_t a_t_first a_t_rank a_t_told a_t_beaten a_t_leads a_t_order t_count t_beaten_r (r5.2) t_order_r) := hD
          cases hf
          exact reti X hK hP hD hS dX4_firstFor_36
set_option maxHeartbeats 4000000 in
set_option maxRecDepth 100000 in
theorem c_X4_firstFor (l : Launch) (D : va_G) (cI cZ cR : ClassId) {a_t a_t_first a_t_rank a_t_told a_t_beaten a_t_leads a_t_order : Nat} {t_count : Int32} {t_beaten_r : Nat → Int32} {t_leads_r : Nat → Int32} {t_order_r : Nat → Int32} {x1 : Int32} {x2 : Int32} {x3 : Int32} {sz : Nat} {out : Int32 × Int32 × (Nat → Int32) × (Nat → Int32)} (hf : F_X4_firstFor x1 x2 x3 t_count t_beaten_r t_leads_r t_order_r = some out) : CI l yX4_firstFor wsX4_firstFor ({ frames := 4, cells := 0, slots := 0, locals := 87 } : Room) D cI cZ cR [.ref a_t, .int x1, .int x2, .int x3] (wd_X4_firstFor cI cZ cR a_t a_t_first a_t_rank a_t_told a_t_beaten a_t_leads a_t_order t_count t_beaten_r t_leads_r t_order_r) sz (out.1) (wd_X4_firstFor cI cZ cR a_t a_t_first a_t_rank a_t_told a_t_beaten a_t_leads a_t_order (out.2.1) t_beaten_r (out.2.2.1) (out.2.2.2)) := by
  refine met_of (Qf := fun A => qi D cI cZ cR A (out.1) (wd_X4_firstFor cI cZ cR a_t a_t_first a_t_rank a_t_told a_t_beaten a_t_leads a_t_order (out.2.1) t_beaten_r (out.2.2.1) (out.2.2.2))) RX4 (by decide +kernel) rfl rfl (Nat.le_of_ble_eq_true rfl) ?_
  intro p e s m below meth c A X hK hA hP hD hS ls hl
  have hl : lv_has ls 6 [(0, .ref a_t), (1, .int x1), (2, .int x2), (3, .int x3)] := hl
  obtain ⟨hx, hb, hml, hr, hown, hts, hlocks, hN⟩ := id X
  unfold F_X4_firstFor at hf
  refine lv_aload_n hx hb dX4_firstFor_0 rfl (lv_at hl 0 rfl) ?_
  refine lv_iload_n hx hb dX4_firstFor_1 rfl (lv_at hl 2 rfl) ?_
  obtain ⟨r1, hr2, hf⟩ := bnd hf
  refine wcalli (D := D) (cI := cI) (cZ := cZ) (cR := cR) (wc := (wd_X4_firstOrder cI cZ cR a_t a_t_first a_t_rank a_t_told a_t_beaten a_t_leads a_t_order t_count t_order_r)) (w' := (wd_X4_firstOrder cI cZ cR a_t a_t_first a_t_rank a_t_told a_t_beaten a_t_leads a_t_order (r1.2.1) (r1.2.2))) [0, 3] hP hD hS hA rfl rfl rfl (rnV (As := [.int x2]) (ci := 4) (q0 := 0) X [0, 3] hK hP hD rfl rfl rfl rfl (c_X4_firstOrder l D cI cZ cR hr2) (cwV 1 hts gX4_firstFor_X4_firstOrder rfl rfl rfl (by decide +kernel) ⟨Nat.le_of_ble_eq_true rfl, Nat.le_of_ble_eq_true rfl⟩) rfl hl.1 rfl (Nat.le_of_ble_eq_true rfl) dX4_firstFor_2) (fun H locs hP hD hS => ?_)
  have hP : va_P D vwCl (wd_X4_firstFor cI cZ cR a_t a_t_first a_t_rank a_t_told a_t_beaten a_t_leads a_t_order (r1.2.1) t_beaten_r t_leads_r (r1.2.2)) H := hP
  have hD : va_D A (wd_X4_firstFor cI cZ cR a_t a_t_first a_t_rank a_t_told a_t_beaten a_t_leads a_t_order (r1.2.1) t_beaten_r t_leads_r (r1.2.2)) := hD
  refine lv_istore (lv' := [(4, .int (r1.1)), (0, .ref a_t), (1, .int x1), (2, .int x2), (3, .int x3)]) hx hb dX4_firstFor_5 hl (by decide) rfl (fun ls hl => ?_)
  refine lv_iconst (v := (0 : Int32)) hx hb dX4_firstFor_7 (by decide) ?_
  refine lv_istore (lv' := [(5, .int (0 : Int32)), (4, .int (r1.1)), (0, .ref a_t), (1, .int x1), (2, .int x2), (3, .int x3)]) hx hb dX4_firstFor_8 hl (by decide) rfl (fun ls hl => ?_)
  exact w_X4_firstFor_10 X hK hA _ (r1.1) (0 : Int32) (r1.2.1) t_leads_r (r1.2.2) hf _ _ hP hD hS _ (lv_sub hl [2, 3, 5, 1, 0] rfl)

abbrev wd_X4_beatsAll (cI cZ cR : ClassId) (a_t a_t_first a_t_rank a_t_told a_t_beaten a_t_leads a_t_order : Nat) (t_count : Int32) (t_beaten_r : Nat → Int32) : va_W := [(a_t, oB 4 [.ref a_t_first, .ref a_t_rank, .ref a_t_told, .ref a_t_beaten, .ref a_t_leads, .ref a_t_order, .int t_count]), (a_t_beaten, aI cI 6 t_beaten_r)]
def F_X4_beatsAll_2 (x1 : Int32) (t_beaten_r : Nat → Int32) : Nat → Int32 → Option (Int32)
  | 0, _ => none
  | n + 1, x2 => (if (6 : Int32) ≤ x2 then (some (-1 : Int32)) else ((F_X11_has x1 x2).bind (fun r2 => (if r2 = 0 then (F_X4_beatsAll_2 x1 t_beaten_r n (x2 + (1 : Int32))) else (gin x2 6 ((F_X11_isWithin (x1 &&& (((1 : Int32) <<< (x2 &&& 31)) ^^^ (-1 : Int32))) (t_beaten_r (x2).toNatClampNeg)).bind (fun r6 => (if r6 = 0 then (F_X4_beatsAll_2 x1 t_beaten_r n (x2 + (1 : Int32))) else (some x2)))))))))
def F_X4_beatsAll (x1 : Int32) (t_beaten_r : Nat → Int32) : Option (Int32) := (F_X4_beatsAll_2 x1 t_beaten_r FU (0 : Int32))
set_option maxRecDepth 100000 in
theorem in_X4_beatsAll_X4 : ∀ w ∈ wsX40, w ∈ wsX4_beatsAll := by decide +kernel
set_option maxHeartbeats 4000000 in
set_option maxRecDepth 100000 in
theorem w_X4_beatsAll_2 {p : Program} {l : Launch} {e : Env} {s : State} {m : MethodId} {args : Array Value} {below : List Frame} {meth : Method} {c : Code} {D : va_G} {cI cZ cR : ClassId} {A : Nat → Prop} {a_t a_t_first a_t_rank a_t_told a_t_beaten a_t_leads a_t_order : Nat} {t_count : Int32} {t_beaten_r : Nat → Int32} {x1 : Int32} {out : Int32} (X : cx p s m args meth c cX4_beatsAll 3 (some .int) RX4 wsX4_beatsAll) (hK : va_K D vwCl (ty3 cI cZ cR) s) (hA : ∀ q, s.heap.size ≤ q → A q) : ∀ (n : Nat) (x2 : Int32), F_X4_beatsAll_2 x1 t_beaten_r n x2 = some out → ∀ (H : Heap) (locs : List Loc), va_P D vwCl (wd_X4_beatsAll cI cZ cR a_t a_t_first a_t_rank a_t_told a_t_beaten a_t_leads a_t_order t_count t_beaten_r) H → va_D A (wd_X4_beatsAll cI cZ cR a_t a_t_first a_t_rank a_t_told a_t_beaten a_t_leads a_t_order t_count t_beaten_r) → va_S A s.heap H locs → ∀ (ls : Array Slot), lv_has ls 3 [(0, .ref a_t), (1, .int x1), (2, .int x2)] → W p l e (headSpec wsX4_beatsAll ({ frames := 1, cells := 0, slots := 0, locals := 21 } : Room)).room s m args below meth c H locs 0 0 (MQ below (qi D cI cZ cR A (out) (wd_X4_beatsAll cI cZ cR a_t a_t_first a_t_rank a_t_told a_t_beaten a_t_leads a_t_order t_count t_beaten_r)) args s 0 0 A) (F0 m 2 ls []) := by
  obtain ⟨hx, hb, hml, hr, hown, hts, hlocks, hN⟩ := id X
  intro n
  induction n with
  | zero =>
    intro x2 hf
    cases (show (none : Option (Int32)) = some out from hf)
  | succ n ih =>
    intro x2 hf H locs hP hD hS ls hl
    rw [F_X4_beatsAll_2] at hf
    refine lv_iload_n hx hb dX4_beatsAll_2 rfl (lv_at hl 2 rfl) ?_
    refine lv_bipush (v := (6 : Int32)) hx hb dX4_beatsAll_3 (by decide) ?_
    refine lv_icmp_ge (tgt := 43) hx hb dX4_beatsAll_5 (by decide) (fun c1 => ?_) (fun c1 => ?_)
    · have hf := ipos c1 hf
      refine lv_iconst (v := (-1 : Int32)) hx hb dX4_beatsAll_43 (by decide) ?_
      cases hf
      exact reti X hK hP hD hS dX4_beatsAll_44
    · have hf := ineg c1 hf
      refine lv_iload_n hx hb dX4_beatsAll_8 rfl (lv_at hl 1 rfl) ?_
      refine lv_iload_n hx hb dX4_beatsAll_9 rfl (lv_at hl 2 rfl) ?_
      obtain ⟨r2, hr3, hf⟩ := bnd hf
      refine wcalli (D := D) (cI := cI) (cZ := cZ) (cR := cR) (wc := (wd_X11_has cI cZ cR)) (w' := (wd_X11_has cI cZ cR)) [] hP hD hS hA rfl rfl rfl (rnSN (As := [.int x1, .int x2]) X [] hK hP hD rfl rfl (c_X11_has l D cI cZ cR hr3) ⟨va_cnB (host := "DivisionHall") 2 hts ggX4_beatsAll_X11_has rfl rfl rfl (hN.2.1 ("DivisionHall$Motions", 40, yX11_has, "DivisionHall") (by decide +kernel)) (hts (.initialized RX11) (by decide +kernel)) (by decide +kernel) ⟨Nat.le_of_ble_eq_true rfl, Nat.le_of_ble_eq_true rfl⟩, hts (.static yX11_has) (by decide +kernel), trivial⟩ rfl hl.1 rfl (Nat.le_of_ble_eq_true rfl) dX4_beatsAll_10) (fun H locs hP hD hS => ?_)
      have hP : va_P D vwCl (wd_X4_beatsAll cI cZ cR a_t a_t_first a_t_rank a_t_told a_t_beaten a_t_leads a_t_order t_count t_beaten_r) H := hP
      have hD : va_D A (wd_X4_beatsAll cI cZ cR a_t a_t_first a_t_rank a_t_told a_t_beaten a_t_leads a_t_order t_count t_beaten_r) := hD
      refine lv_if_eq (tgt := 37) hx hb dX4_beatsAll_13 (by decide) (fun c4 => ?_) (fun c4 => ?_)
      · have hf := ipos c4 hf
        refine lv_iinc (v := (x2 + (1 : Int32))) (lv' := [(2, .int (x2 + (1 : Int32))), (0, .ref a_t), (1, .int x1)]) hx hb dX4_beatsAll_37 hl (k := 2) rfl rfl (by decide) rfl (fun ls hl => ?_)
        refine lv_goto (tgt := 2) hx hb dX4_beatsAll_40 (by decide) ?_
        exact ih (x2 + (1 : Int32)) hf _ _ hP hD hS _ (lv_sub hl [1, 2, 0] rfl)
      · have hf := ineg c4 hf
        refine lv_iload_n hx hb dX4_beatsAll_16 rfl (lv_at hl 1 rfl) ?_
        refine lv_iconst (v := (1 : Int32)) hx hb dX4_beatsAll_17 (by decide) ?_
        refine lv_iload_n hx hb dX4_beatsAll_18 rfl (lv_at hl 2 rfl) ?_
        refine lv_ishl hx hb dX4_beatsAll_19 ?_
        refine lv_iconst (v := (-1 : Int32)) hx hb dX4_beatsAll_20 (by decide) ?_
        refine lv_ixor hx hb dX4_beatsAll_21 ?_
        refine lv_iand hx hb dX4_beatsAll_22 ?_
        refine lv_aload_n hx hb dX4_beatsAll_23 rfl (lv_at hl 0 rfl) ?_
        refine va_get (D := D) (ci := 4) (v := .ref a_t_beaten) (C := RX4) (T := TX4) (N := 7) hx hb hts in_X4_beatsAll_X4 hown hK hP 0 rfl rfl 3 (by decide) (hts (.fieldLink RX4 21 "DivisionHall$Motions" "beaten" "[I") (by decide +kernel)) (fun _ h9 => h9) rfl dX4_beatsAll_24 ?_
        refine lv_iload_n hx hb dX4_beatsAll_27 rfl (lv_at hl 2 rfl) ?_
        obtain ⟨hi5, hf⟩ := gin_s hf
        refine va_iald hx hb hK hP 1 0 rfl rfl hi5 dX4_beatsAll_28 ?_
        obtain ⟨r6, hr7, hf⟩ := bnd hf
        refine wcalli (D := D) (cI := cI) (cZ := cZ) (cR := cR) (wc := (wd_X11_isWithin cI cZ cR)) (w' := (wd_X11_isWithin cI cZ cR)) [] hP hD hS hA rfl rfl rfl (rnSN (As := [.int (x1 &&& (((1 : Int32) <<< (x2 &&& 31)) ^^^ (-1 : Int32))), .int (t_beaten_r (x2).toNatClampNeg)]) X [] hK hP hD rfl rfl (c_X11_isWithin l D cI cZ cR hr7) ⟨va_cnB (host := "DivisionHall") 2 hts ggX4_beatsAll_X11_isWithin rfl rfl rfl (hN.2.1 ("DivisionHall$Motions", 101, yX11_isWithin, "DivisionHall") (by decide +kernel)) (hts (.initialized RX11) (by decide +kernel)) (by decide +kernel) ⟨Nat.le_of_ble_eq_true rfl, Nat.le_of_ble_eq_true rfl⟩, hts (.static yX11_isWithin) (by decide +kernel), trivial⟩ rfl hl.1 rfl (Nat.le_of_ble_eq_true rfl) dX4_beatsAll_29) (fun H locs hP hD hS => ?_)
        have hP : va_P D vwCl (wd_X4_beatsAll cI cZ cR a_t a_t_first a_t_rank a_t_told a_t_beaten a_t_leads a_t_order t_count t_beaten_r) H := hP
        have hD : va_D A (wd_X4_beatsAll cI cZ cR a_t a_t_first a_t_rank a_t_told a_t_beaten a_t_leads a_t_order t_count t_beaten_r) := hD
        refine lv_if_eq (tgt := 37) hx hb dX4_beatsAll_32 (by decide) (fun c8 => ?_) (fun c8 => ?_)
        · have hf := ipos c8 hf
          refine lv_iinc (v := (x2 + (1 : Int32))) (lv' := [(2, .int (x2 + (1 : Int32))), (0, .ref a_t), (1, .int x1)]) hx hb dX4_beatsAll_37 hl (k := 2) rfl rfl (by decide) rfl (fun ls hl => ?_)
          refine lv_goto (tgt := 2) hx hb dX4_beatsAll_40 (by decide) ?_
          exact ih (x2 + (1 : Int32)) hf _ _ hP hD hS _ (lv_sub hl [1, 2, 0] rfl)
        · have hf := ineg c8 hf
          refine lv_iload_n hx hb dX4_beatsAll_35 rfl (lv_at hl 2 rfl) ?_
          cases hf
          exact reti X hK hP hD hS dX4_beatsAll_36
set_option maxHeartbeats 4000000 in
set_option maxRecDepth 100000 in
theorem c_X4_beatsAll (l : Launch) (D : va_G) (cI cZ cR : ClassId) {a_t a_t_first a_t_rank a_t_told a_t_beaten a_t_leads a_t_order : Nat} {t_count : Int32} {t_beaten_r : Nat → Int32} {x1 : Int32} {sz : Nat} {out : Int32} (hf : F_X4_beatsAll x1 t_beaten_r = some out) : CI l yX4_beatsAll wsX4_beatsAll ({ frames := 1, cells := 0, slots := 0, locals := 21 } : Room) D cI cZ cR [.ref a_t, .int x1] (wd_X4_beatsAll cI cZ cR a_t a_t_first a_t_rank a_t_told a_t_beaten a_t_leads a_t_order t_count t_beaten_r) sz (out) (wd_X4_beatsAll cI cZ cR a_t a_t_first a_t_rank a_t_told a_t_beaten a_t_leads a_t_order t_count t_beaten_r) := by
  refine met_of (Qf := fun A => qi D cI cZ cR A (out) (wd_X4_beatsAll cI cZ cR a_t a_t_first a_t_rank a_t_told a_t_beaten a_t_leads a_t_order t_count t_beaten_r)) RX4 (by decide +kernel) rfl rfl (Nat.le_of_ble_eq_true rfl) ?_
  intro p e s m below meth c A X hK hA hP hD hS ls hl
  have hl : lv_has ls 3 [(0, .ref a_t), (1, .int x1)] := hl
  obtain ⟨hx, hb, hml, hr, hown, hts, hlocks, hN⟩ := id X
  unfold F_X4_beatsAll at hf
  refine lv_iconst (v := (0 : Int32)) hx hb dX4_beatsAll_0 (by decide) ?_
  refine lv_istore_n (lv' := [(2, .int (0 : Int32)), (0, .ref a_t), (1, .int x1)]) hx hb dX4_beatsAll_1 rfl hl (by decide) rfl (fun ls hl => ?_)
  exact w_X4_beatsAll_2 X hK hA _ (0 : Int32) hf _ _ hP hD hS _ (lv_sub hl [1, 2, 0] rfl)
