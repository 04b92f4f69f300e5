abbrev wd_X10_markSums (cI cZ cR : ClassId) (a_t a_t_sets a_t_figures a_t_sums : Nat) (t_carrying t_count : Int32) (t_figures_r : Nat → Int32) (t_sums_r : Nat → Int32) : va_W := [(a_t, oB 9 [.ref a_t_sets, .ref a_t_figures, .ref a_t_sums, .int t_carrying, .int t_count]), (a_t_figures, aI cI 1024 t_figures_r), (a_t_sums, aI cI 1846 t_sums_r)]
set_option maxRecDepth 100000 in
theorem in_X10_markSums_X10 : ∀ w ∈ wsX100, w ∈ wsX10_markSums := by decide +kernel
set_option maxHeartbeats 4000000 in
set_option maxRecDepth 100000 in
theorem w_X10_markSums_39 {p : Program} {l : Launch} {e : Env} {s : State} {m : MethodId} {args : Array Value} {below : List Frame} {meth : Method} {c : Code} {D : va_G} {cI cZ cR : ClassId} {A : Nat → Prop} {a_t a_t_sets a_t_figures a_t_sums : Nat} {t_carrying : Int32} {t_count : Int32} {t_figures_r : Nat → Int32} {rec13 : Int32 → (Nat → Int32) → Option ((Nat → Int32))} {out : (Nat → Int32)} (X : cx p s m args meth c cX10_markSums 5 none RX10 wsX10_markSums) (hK : va_K D vwCl (ty3 cI cZ cR) s) (hA : ∀ q, s.heap.size ≤ q → A q) (hrec13 : ∀ (x1 : Int32) (t_sums_r : Nat → Int32), rec13 x1 t_sums_r = some out → ∀ (H : Heap) (locs : List Loc), va_P D vwCl (wd_X10_markSums cI cZ cR a_t a_t_sets a_t_figures a_t_sums t_carrying t_count t_figures_r t_sums_r) H → va_D A (wd_X10_markSums cI cZ cR a_t a_t_sets a_t_figures a_t_sums t_carrying t_count t_figures_r t_sums_r) → va_S A s.heap H locs → ∀ (ls : Array Slot), lv_has ls 5 [(0, .ref a_t), (1, .int x1)] → W p l e (headSpec wsX10_markSums ({ frames := 1, cells := 0, slots := 0, locals := 23 } : Room)).room s m args below meth c H locs 0 0 (MQ below (qv D cI cZ cR A (wd_X10_markSums cI cZ cR a_t a_t_sets a_t_figures a_t_sums t_carrying t_count t_figures_r out)) args s 0 0 A) (F0 m 13 ls [])) : ∀ (n : Nat) (x1 : Int32) (x2 : Int32) (x3 : Int32) (t_sums_r : Nat → Int32), F_X10_markSums_39 t_carrying t_count t_figures_r rec13 n x1 x2 x3 t_sums_r = some out → ∀ (H : Heap) (locs : List Loc), va_P D vwCl (wd_X10_markSums cI cZ cR a_t a_t_sets a_t_figures a_t_sums t_carrying t_count t_figures_r t_sums_r) H → va_D A (wd_X10_markSums cI cZ cR a_t a_t_sets a_t_figures a_t_sums t_carrying t_count t_figures_r t_sums_r) → va_S A s.heap H locs → ∀ (ls : Array Slot), lv_has ls 5 [(0, .ref a_t), (1, .int x1), (2, .int x2), (3, .int x3)] → W p l e (headSpec wsX10_markSums ({ frames := 1, cells := 0, slots := 0, locals := 23 } : Room)).room s m args below meth c H locs 0 0 (MQ below (qv D cI cZ cR A (wd_X10_markSums cI cZ cR a_t a_t_sets a_t_figures a_t_sums t_carrying t_count t_figures_r out)) args s 0 0 A) (F0 m 39 ls []) := by
  obtain ⟨hx, hb, hml, hr, hown, hts, hlocks, hN⟩ := id X
  intro n
  induction n with
  | zero =>
    intro x1 x2 x3 t_sums_r hf
    cases (show (none : Option ((Nat → Int32))) = some out from hf)
  | succ n ih =>
    intro x1 x2 x3 t_sums_r hf H locs hP hD hS ls hl
    rw [F_X10_markSums_39] at hf
    refine lv_iload_n hx hb dX10_markSums_39 rfl (lv_at hl 3 rfl) ?_
    refine lv_aload_n hx hb dX10_markSums_40 rfl (lv_at hl 0 rfl) ?_
    refine va_get (D := D) (ci := 9) (v := .int t_count) (C := RX10) (T := TX10) (N := 5) hx hb hts in_X10_markSums_X10 hown hK hP 0 rfl rfl 4 (by decide) (hts (.fieldLink RX10 36 "DivisionHall$Trader" "count" "I") (by decide +kernel)) (fun _ h9 => h9) rfl dX10_markSums_41 ?_
    refine lv_icmp_ge (tgt := 99) hx hb dX10_markSums_44 (by decide) (fun c6 => ?_) (fun c6 => ?_)
    · have hf := ipos c6 hf
      refine lv_iinc (v := (x1 + (1 : Int32))) (lv' := [(1, .int (x1 + (1 : Int32))), (0, .ref a_t), (2, .int x2), (3, .int x3)]) hx hb dX10_markSums_99 hl (k := 1) rfl rfl (by decide) rfl (fun ls hl => ?_)
      refine lv_goto (tgt := 13) hx hb dX10_markSums_102 (by decide) ?_
      exact hrec13 (x1 + (1 : Int32)) t_sums_r hf _ _ hP hD hS _ (lv_sub hl [1, 0] rfl)
    · have hf := ineg c6 hf
      refine lv_iload_n hx hb dX10_markSums_47 rfl (lv_at hl 3 rfl) ?_
      refine lv_sipush (v := (1024 : Int32)) hx hb dX10_markSums_48 (by decide) ?_
      refine lv_icmp_ge (tgt := 99) hx hb dX10_markSums_51 (by decide) (fun c7 => ?_) (fun c7 => ?_)
      · have hf := ipos c7 hf
        refine lv_iinc (v := (x1 + (1 : Int32))) (lv' := [(1, .int (x1 + (1 : Int32))), (0, .ref a_t), (2, .int x2), (3, .int x3)]) hx hb dX10_markSums_99 hl (k := 1) rfl rfl (by decide) rfl (fun ls hl => ?_)
        refine lv_goto (tgt := 13) hx hb dX10_markSums_102 (by decide) ?_
        exact hrec13 (x1 + (1 : Int32)) t_sums_r hf _ _ hP hD hS _ (lv_sub hl [1, 0] rfl)
      · have hf := ineg c7 hf
        refine lv_iload_n hx hb dX10_markSums_54 rfl (lv_at hl 2 rfl) ?_
        refine lv_aload_n hx hb dX10_markSums_55 rfl (lv_at hl 0 rfl) ?_
        refine va_get (D := D) (ci := 9) (v := .ref a_t_figures) (C := RX10) (T := TX10) (N := 5) hx hb hts in_X10_markSums_X10 hown hK hP 0 rfl rfl 1 (by decide) (hts (.fieldLink RX10 15 "DivisionHall$Trader" "figures" "[I") (by decide +kernel)) (fun _ h9 => h9) rfl dX10_markSums_56 ?_
        refine lv_iload_n hx hb dX10_markSums_59 rfl (lv_at hl 3 rfl) ?_
        obtain ⟨hi8, hf⟩ := gin_s hf
        refine va_iald hx hb hK hP 1 0 rfl rfl hi8 dX10_markSums_60 ?_
        refine lv_iadd hx hb dX10_markSums_61 ?_
        refine lv_istore (lv' := [(4, .int (x2 + (t_figures_r (x3).toNatClampNeg))), (0, .ref a_t), (1, .int x1), (2, .int x2), (3, .int x3)]) hx hb dX10_markSums_62 hl (by decide) rfl (fun ls hl => ?_)
        refine lv_iload hx hb dX10_markSums_64 (lv_at hl 0 rfl) ?_
        refine lv_ldc (v := (59049 : Int32)) hx hb hown (hts (.constant RX10 72 (59049 : Int32)) (by decide +kernel)) dX10_markSums_66 ?_
        obtain ⟨r9, hr10, hf⟩ := bnd hf
        refine wcalli (D := D) (cI := cI) (cZ := cZ) (cR := cR) (wc := (wd_X11_inside cI cZ cR)) (w' := (wd_X11_inside cI cZ cR)) [] hP hD hS hA rfl rfl rfl (rnSN (As := [.int (x2 + (t_figures_r (x3).toNatClampNeg)), .int (59049 : Int32)]) X [] hK hP hD rfl rfl (c_X11_inside l D cI cZ cR hr10) ⟨va_cnB (host := "DivisionHall") 2 hts ggX10_markSums_X11_inside rfl rfl rfl (hN.2.1 ("DivisionHall$Trader", 65, yX11_inside, "DivisionHall") (by decide +kernel)) (hts (.initialized RX11) (by decide +kernel)) (by decide +kernel) ⟨Nat.le_of_ble_eq_true rfl, Nat.le_of_ble_eq_true rfl⟩, hts (.static yX11_inside) (by decide +kernel), trivial⟩ rfl hl.1 rfl (Nat.le_of_ble_eq_true rfl) dX10_markSums_68) (fun H locs hP hD hS => ?_)
        have hP : va_P D vwCl (wd_X10_markSums cI cZ cR a_t a_t_sets a_t_figures a_t_sums t_carrying t_count t_figures_r t_sums_r) H := hP
        have hD : va_D A (wd_X10_markSums cI cZ cR a_t a_t_sets a_t_figures a_t_sums t_carrying t_count t_figures_r t_sums_r) := hD
        refine lv_if_eq (tgt := 93) hx hb dX10_markSums_71 (by decide) (fun c11 => ?_) (fun c11 => ?_)
        · have hf := ipos c11 hf
          refine lv_iinc (v := (x3 + (1 : Int32))) (lv' := [(3, .int (x3 + (1 : Int32))), (4, .int (x2 + (t_figures_r (x3).toNatClampNeg))), (0, .ref a_t), (1, .int x1), (2, .int x2)]) hx hb dX10_markSums_93 hl (k := 4) rfl rfl (by decide) rfl (fun ls hl => ?_)
          refine lv_goto (tgt := 39) hx hb dX10_markSums_96 (by decide) ?_
          exact ih x1 x2 (x3 + (1 : Int32)) t_sums_r hf _ _ hP hD hS _ (lv_sub hl [2, 3, 4, 0] rfl)
        · have hf := ineg c11 hf
          refine lv_aload_n hx hb dX10_markSums_74 rfl (lv_at hl 1 rfl) ?_
          refine va_get (D := D) (ci := 9) (v := .ref a_t_sums) (C := RX10) (T := TX10) (N := 5) hx hb hts in_X10_markSums_X10 hown hK hP 0 rfl rfl 2 (by decide) (hts (.fieldLink RX10 18 "DivisionHall$Trader" "sums" "[I") (by decide +kernel)) (fun _ h9 => h9) rfl dX10_markSums_75 ?_
          refine lv_iload hx hb dX10_markSums_78 (lv_at hl 0 rfl) ?_
          refine lv_iconst (v := (5 : Int32)) hx hb dX10_markSums_80 (by decide) ?_
          refine lv_ishr hx hb dX10_markSums_81 ?_
          refine lv_dup2_11 hx hb dX10_markSums_82 rfl rfl ?_
          obtain ⟨hi12, hf⟩ := gin_s hf
          refine va_iald hx hb hK hP 2 0 rfl rfl hi12 dX10_markSums_83 ?_
          refine lv_iconst (v := (1 : Int32)) hx hb dX10_markSums_84 (by decide) ?_
          refine lv_iload hx hb dX10_markSums_85 (lv_at hl 0 rfl) ?_
          refine lv_bipush (v := (31 : Int32)) hx hb dX10_markSums_87 (by decide) ?_
          refine lv_iand hx hb dX10_markSums_89 ?_
          refine lv_ishl hx hb dX10_markSums_90 ?_
          refine lv_ior hx hb dX10_markSums_91 ?_
          obtain ⟨hi13, hf⟩ := gin_s hf
          refine va_iast hx hb hK hP hD hS 2 0 rfl rfl hi13 dX10_markSums_92 (fun H locs hP hD hS => ?_)
          have hP : va_P D vwCl (wd_X10_markSums cI cZ cR a_t a_t_sets a_t_figures a_t_sums t_carrying t_count t_figures_r (upd t_sums_r (((x2 + (t_figures_r (x3).toNatClampNeg)) >>> ((5 : Int32) &&& 31))).toNatClampNeg ((t_sums_r (((x2 + (t_figures_r (x3).toNatClampNeg)) >>> ((5 : Int32) &&& 31))).toNatClampNeg) ||| ((1 : Int32) <<< (((x2 + (t_figures_r (x3).toNatClampNeg)) &&& (31 : Int32)) &&& 31))))) H := hP
          have hD : va_D A (wd_X10_markSums cI cZ cR a_t a_t_sets a_t_figures a_t_sums t_carrying t_count t_figures_r (upd t_sums_r (((x2 + (t_figures_r (x3).toNatClampNeg)) >>> ((5 : Int32) &&& 31))).toNatClampNeg ((t_sums_r (((x2 + (t_figures_r (x3).toNatClampNeg)) >>> ((5 : Int32) &&& 31))).toNatClampNeg) ||| ((1 : Int32) <<< (((x2 + (t_figures_r (x3).toNatClampNeg)) &&& (31 : Int32)) &&& 31))))) := hD
          refine lv_iinc (v := (x3 + (1 : Int32))) (lv' := [(3, .int (x3 + (1 : Int32))), (4, .int (x2 + (t_figures_r (x3).toNatClampNeg))), (0, .ref a_t), (1, .int x1), (2, .int x2)]) hx hb dX10_markSums_93 hl (k := 4) rfl rfl (by decide) rfl (fun ls hl => ?_)
          refine lv_goto (tgt := 39) hx hb dX10_markSums_96 (by decide) ?_
          exact ih x1 x2 (x3 + (1 : Int32)) (upd t_sums_r (((x2 + (t_figures_r (x3).toNatClampNeg)) >>> ((5 : Int32) &&& 31))).toNatClampNeg ((t_sums_r (((x2 + (t_figures_r (x3).toNatClampNeg)) >>> ((5 : Int32) &&& 31))).toNatClampNeg) ||| ((1 : Int32) <<< (((x2 + (t_figures_r (x3).toNatClampNeg)) &&& (31 : Int32)) &&& 31)))) hf _ _ hP hD hS _ (lv_sub hl [2, 3, 4, 0] rfl)
set_option maxHeartbeats 4000000 in
set_option maxRecDepth 100000 in
theorem w_X10_markSums_13 {p : Program} {l : Launch} {e : Env} {s : State} {m : MethodId} {args : Array Value} {below : List Frame} {meth : Method} {c : Code} {D : va_G} {cI cZ cR : ClassId} {A : Nat → Prop} {a_t a_t_sets a_t_figures a_t_sums : Nat} {t_carrying : Int32} {t_count : Int32} {t_figures_r : Nat → Int32} {out : (Nat → Int32)} (X : cx p s m args meth c cX10_markSums 5 none RX10 wsX10_markSums) (hK : va_K D vwCl (ty3 cI cZ cR) s) (hA : ∀ q, s.heap.size ≤ q → A q) : ∀ (n : Nat) (x1 : Int32) (t_sums_r : Nat → Int32), F_X10_markSums_13 t_carrying t_count t_figures_r n x1 t_sums_r = some out → ∀ (H : Heap) (locs : List Loc), va_P D vwCl (wd_X10_markSums cI cZ cR a_t a_t_sets a_t_figures a_t_sums t_carrying t_count t_figures_r t_sums_r) H → va_D A (wd_X10_markSums cI cZ cR a_t a_t_sets a_t_figures a_t_sums t_carrying t_count t_figures_r t_sums_r) → va_S A s.heap H locs → ∀ (ls : Array Slot), lv_has ls 5 [(0, .ref a_t), (1, .int x1)] → W p l e (headSpec wsX10_markSums ({ frames := 1, cells := 0, slots := 0, locals := 23 } : Room)).room s m args below meth c H locs 0 0 (MQ below (qv D cI cZ cR A (wd_X10_markSums cI cZ cR a_t a_t_sets a_t_figures a_t_sums t_carrying t_count t_figures_r out)) args s 0 0 A) (F0 m 13 ls []) := by
  obtain ⟨hx, hb, hml, hr, hown, hts, hlocks, hN⟩ := id X
  intro n
  induction n with
  | zero =>
    intro x1 t_sums_r hf
    cases (show (none : Option ((Nat → Int32))) = some out from hf)
  | succ n ih =>
    intro x1 t_sums_r hf H locs hP hD hS ls hl
    rw [F_X10_markSums_13] at hf
    refine lv_iload_n hx hb dX10_markSums_13 rfl (lv_at hl 1 rfl) ?_
    refine lv_aload_n hx hb dX10_markSums_14 rfl (lv_at hl 0 rfl) ?_
    refine va_get (D := D) (ci := 9) (v := .int t_count) (C := RX10) (T := TX10) (N := 5) hx hb hts in_X10_markSums_X10 hown hK hP 0 rfl rfl 4 (by decide) (hts (.fieldLink RX10 36 "DivisionHall$Trader" "count" "I") (by decide +kernel)) (fun _ h9 => h9) rfl dX10_markSums_15 ?_
    refine lv_icmp_ge (tgt := 105) hx hb dX10_markSums_18 (by decide) (fun c3 => ?_) (fun c3 => ?_)
    · have hf := ipos c3 hf
      cases hf
      exact retv X hK hP hD hS dX10_markSums_105
    · have hf := ineg c3 hf
      refine lv_iload_n hx hb dX10_markSums_21 rfl (lv_at hl 1 rfl) ?_
      refine lv_sipush (v := (1024 : Int32)) hx hb dX10_markSums_22 (by decide) ?_
      refine lv_icmp_ge (tgt := 105) hx hb dX10_markSums_25 (by decide) (fun c4 => ?_) (fun c4 => ?_)
      · have hf := ipos c4 hf
        cases hf
        exact retv X hK hP hD hS dX10_markSums_105
      · have hf := ineg c4 hf
        refine lv_aload_n hx hb dX10_markSums_28 rfl (lv_at hl 0 rfl) ?_
        refine va_get (D := D) (ci := 9) (v := .ref a_t_figures) (C := RX10) (T := TX10) (N := 5) hx hb hts in_X10_markSums_X10 hown hK hP 0 rfl rfl 1 (by decide) (hts (.fieldLink RX10 15 "DivisionHall$Trader" "figures" "[I") (by decide +kernel)) (fun _ h9 => h9) rfl dX10_markSums_29 ?_
        refine lv_iload_n hx hb dX10_markSums_32 rfl (lv_at hl 1 rfl) ?_
        obtain ⟨hi5, hf⟩ := gin_s hf
        refine va_iald hx hb hK hP 1 0 rfl rfl hi5 dX10_markSums_33 ?_
        refine lv_istore_n (lv' := [(2, .int (t_figures_r (x1).toNatClampNeg)), (0, .ref a_t), (1, .int x1)]) hx hb dX10_markSums_34 rfl hl (by decide) rfl (fun ls hl => ?_)
        refine lv_iload_n hx hb dX10_markSums_35 rfl (lv_at hl 2 rfl) ?_
        refine lv_iconst (v := (1 : Int32)) hx hb dX10_markSums_36 (by decide) ?_
        refine lv_iadd hx hb dX10_markSums_37 ?_
        refine lv_istore_n (lv' := [(3, .int (x1 + (1 : Int32))), (2, .int (t_figures_r (x1).toNatClampNeg)), (0, .ref a_t), (1, .int x1)]) hx hb dX10_markSums_38 rfl hl (by decide) rfl (fun ls hl => ?_)
        exact w_X10_markSums_39 X hK hA ih _ x1 (t_figures_r (x1).toNatClampNeg) (x1 + (1 : Int32)) t_sums_r hf _ _ hP hD hS _ (lv_sub hl [2, 3, 1, 0] rfl)
set_option maxHeartbeats 4000000 in
set_option maxRecDepth 100000 in
theorem c_X10_markSums (l : Launch) (D : va_G) (cI cZ cR : ClassId) {a_t a_t_sets a_t_figures a_t_sums : Nat} {t_carrying : Int32} {t_count : Int32} {t_figures_r : Nat → Int32} {t_sums_r : Nat → Int32} {sz : Nat} {out : (Nat → Int32)} (hf : F_X10_markSums t_carrying t_count t_figures_r t_sums_r = some out) : CV l yX10_markSums wsX10_markSums ({ frames := 1, cells := 0, slots := 0, locals := 23 } : Room) D cI cZ cR [.ref a_t] (wd_X10_markSums cI cZ cR a_t a_t_sets a_t_figures a_t_sums t_carrying t_count t_figures_r t_sums_r) sz (wd_X10_markSums cI cZ cR a_t a_t_sets a_t_figures a_t_sums t_carrying t_count t_figures_r out) := by
  refine met_of (Qf := fun A => qv D cI cZ cR A (wd_X10_markSums cI cZ cR a_t a_t_sets a_t_figures a_t_sums t_carrying t_count t_figures_r out)) RX10 (by decide +kernel) rfl rfl (Nat.le_of_ble_eq_true rfl) ?_
  intro p e s m below meth c A X hK hA hP hD hS ls hl
  have hl : lv_has ls 5 [(0, .ref a_t)] := hl
  obtain ⟨hx, hb, hml, hr, hown, hts, hlocks, hN⟩ := id X
  unfold F_X10_markSums at hf
  refine lv_aload_n hx hb dX10_markSums_0 rfl (lv_at hl 0 rfl) ?_
  refine va_get (D := D) (ci := 9) (v := .ref a_t_sums) (C := RX10) (T := TX10) (N := 5) hx hb hts in_X10_markSums_X10 hown hK hP 0 rfl rfl 2 (by decide) (hts (.fieldLink RX10 18 "DivisionHall$Trader" "sums" "[I") (by decide +kernel)) (fun _ h9 => h9) rfl dX10_markSums_1 ?_
  refine lv_iconst (v := (0 : Int32)) hx hb dX10_markSums_4 (by decide) ?_
  obtain ⟨r1, hr2, hf⟩ := bnd hf
  refine wcallv (D := D) (cI := cI) (cZ := cZ) (cR := cR) (wc := (wd_J7_fill_53178 cI cZ cR a_t_sums 1846 t_sums_r)) (w' := (wd_J7_fill_53178 cI cZ cR a_t_sums 1846 r1)) [2] hP hD hS hA rfl rfl rfl (rnS (As := [.ref a_t_sums, .int (0 : Int32)]) X [2] hK hP hD rfl rfl (c_J7_fill_53178 l D cI cZ cR hr2) ⟨callB_of 2 hts ggX10_markSums_J7_fill_53178 rfl rfl rfl (hts (.initialized RJ7) (by decide +kernel)) (hts (.methodLink RX10 30 yJ7_fill_53178) (by decide +kernel)) (by decide +kernel) ⟨Nat.le_of_ble_eq_true rfl, Nat.le_of_ble_eq_true rfl⟩, hts (.static yJ7_fill_53178) (by decide +kernel)⟩ rfl hl.1 rfl (Nat.le_of_ble_eq_true rfl) dX10_markSums_5) (fun H locs hP hD hS => ?_)
  have hP : va_P D vwCl (wd_X10_markSums cI cZ cR a_t a_t_sets a_t_figures a_t_sums t_carrying t_count t_figures_r r1) H := hP
  have hD : va_D A (wd_X10_markSums cI cZ cR a_t a_t_sets a_t_figures a_t_sums t_carrying t_count t_figures_r r1) := hD
  refine lv_aload_n hx hb dX10_markSums_8 rfl (lv_at hl 0 rfl) ?_
  refine va_get (D := D) (ci := 9) (v := .int t_carrying) (C := RX10) (T := TX10) (N := 5) hx hb hts in_X10_markSums_X10 hown hK hP 0 rfl rfl 3 (by decide) (hts (.fieldLink RX10 44 "DivisionHall$Trader" "carrying" "I") (by decide +kernel)) (fun _ h9 => h9) rfl dX10_markSums_9 ?_
  refine lv_istore_n (lv' := [(1, .int t_carrying), (0, .ref a_t)]) hx hb dX10_markSums_12 rfl hl (by decide) rfl (fun ls hl => ?_)
  exact w_X10_markSums_13 X hK hA _ t_carrying r1 hf _ _ hP hD hS _ (lv_sub hl [1, 0] rfl)

abbrev wd_X10_seek (cI cZ cR : ClassId) (a_p1 a_p1_bits a_p1_trade a_t a_t_sets a_t_figures a_t_sums : Nat) (p1_in p1_fresh p1_tradeSought t_carrying t_count : Int32) (p1_bits_r : Nat → Int32) (p1_trade_r : Nat → Int32) (t_figures_r : Nat → Int32) (t_sets_r : Nat → Int32) (t_sums_r : Nat → Int32) : va_W := [(a_p1, oB 8 [.ref a_p1_bits, .ref a_p1_trade, .int p1_in, .int p1_fresh, .int p1_tradeSought]), (a_t, oB 9 [.ref a_t_sets, .ref a_t_figures, .ref a_t_sums, .int t_carrying, .int t_count]), (a_p1_bits, aI cI 32 p1_bits_r), (a_p1_trade, aI cI 4 p1_trade_r), (a_t_figures, aI cI 1024 t_figures_r), (a_t_sets, aI cI 1024 t_sets_r), (a_t_sums, aI cI 1846 t_sums_r)]
set_option maxRecDepth 100000 in
theorem in_X10_seek_X10 : ∀ w ∈ wsX100, w ∈ wsX10_seek := by decide +kernel
set_option maxRecDepth 100000 in
theorem in_X10_seek_X9 : ∀ w ∈ wsX90, w ∈ wsX10_seek := by decide +kernel
set_option maxHeartbeats 4000000 in
set_option maxRecDepth 100000 in
theorem c_X10_seek (l : Launch) (D : va_G) (cI cZ cR : ClassId) {a_p1 a_p1_bits a_p1_trade a_t a_t_sets a_t_figures a_t_sums : Nat} {p1_in : Int32} {p1_fresh : Int32} {p1_tradeSought : Int32} {t_carrying : Int32} {t_count : Int32} {p1_bits_r : Nat → Int32} {p1_trade_r : Nat → Int32} {t_figures_r : Nat → Int32} {t_sets_r : Nat → Int32} {t_sums_r : Nat → Int32} {sz : Nat} {out : Int32 × (Nat → Int32) × Int32 × Int32 × (Nat → Int32) × (Nat → Int32) × (Nat → Int32)} (hf : F_X10_seek p1_in p1_tradeSought p1_bits_r p1_trade_r t_carrying t_count t_figures_r t_sets_r t_sums_r = some out) : CV l yX10_seek wsX10_seek ({ frames := 4, cells := 0, slots := 0, locals := 95 } : Room) D cI cZ cR [.ref a_t, .ref a_p1] (wd_X10_seek cI cZ cR a_p1 a_p1_bits a_p1_trade a_t a_t_sets a_t_figures a_t_sums p1_in p1_fresh p1_tradeSought t_carrying t_count p1_bits_r p1_trade_r t_figures_r t_sets_r t_sums_r) sz (wd_X10_seek cI cZ cR a_p1 a_p1_bits a_p1_trade a_t a_t_sets a_t_figures a_t_sums p1_in p1_fresh (out.1) (out.2.2.1) (out.2.2.2.1) p1_bits_r (out.2.1) (out.2.2.2.2.1) (out.2.2.2.2.2.1) (out.2.2.2.2.2.2)) := by
  refine met_of (Qf := fun A => qv D cI cZ cR A (wd_X10_seek cI cZ cR a_p1 a_p1_bits a_p1_trade a_t a_t_sets a_t_figures a_t_sums p1_in p1_fresh (out.1) (out.2.2.1) (out.2.2.2.1) p1_bits_r (out.2.1) (out.2.2.2.2.1) (out.2.2.2.2.2.1) (out.2.2.2.2.2.2))) RX10 (by decide +kernel) rfl rfl (Nat.le_of_ble_eq_true rfl) ?_
  intro p e s m below meth c A X hK hA hP hD hS ls hl
  have hl : lv_has ls 2 [(0, .ref a_t), (1, .ref a_p1)] := hl
  obtain ⟨hx, hb, hml, hr, hown, hts, hlocks, hN⟩ := id X
  unfold F_X10_seek at hf
  refine lv_aload_n hx hb dX10_seek_0 rfl (lv_at hl 1 rfl) ?_
  refine lv_iconst (v := (1 : Int32)) hx hb dX10_seek_1 (by decide) ?_
  refine va_putN (D := D) (ci := 8) (v := .int (1 : Int32)) (ty := .boolean) (C := RX9) (T := TX9) (N := 5) hx hb hts in_X10_seek_X9 tyX9 tyX9_ok nmX9 hown hK hP hD hS 0 rfl rfl 4 (by decide) (va_Nw.use rfl (hN.1 ("DivisionHall$Trader", 21, "DivisionHall$Table", "tradeSought", "Z", "DivisionHall") (by decide +kernel))) (fun _ h9 => h9) rfl (by decide +kernel) rfl rfl (Nat.le_of_ble_eq_true rfl) dX10_seek_2 (fun H locs hP hD hS => ?_)
  have hP : va_P D vwCl (wd_X10_seek cI cZ cR a_p1 a_p1_bits a_p1_trade a_t a_t_sets a_t_figures a_t_sums p1_in p1_fresh (1 : Int32) t_carrying t_count p1_bits_r p1_trade_r t_figures_r t_sets_r t_sums_r) H := hP
  have hD : va_D A (wd_X10_seek cI cZ cR a_p1 a_p1_bits a_p1_trade a_t a_t_sets a_t_figures a_t_sums p1_in p1_fresh (1 : Int32) t_carrying t_count p1_bits_r p1_trade_r t_figures_r t_sets_r t_sums_r) := hD
  refine lv_aload_n hx hb dX10_seek_5 rfl (lv_at hl 1 rfl) ?_
  refine va_getN (D := D) (ci := 8) (v := .ref a_p1_trade) (C := RX9) (T := TX9) (N := 5) hx hb hts in_X10_seek_X9 hown hK hP 0 rfl rfl 1 (by decide) (va_Nw.use rfl (hN.1 ("DivisionHall$Trader", 27, "DivisionHall$Table", "trade", "[I", "DivisionHall") (by decide +kernel))) (fun _ h9 => h9) rfl dX10_seek_6 ?_
  refine lv_iconst (v := (-1 : Int32)) hx hb dX10_seek_9 (by decide) ?_
  obtain ⟨r1, hr2, hf⟩ := bnd hf
  refine wcallv (D := D) (cI := cI) (cZ := cZ) (cR := cR) (wc := (wd_J7_fill_53178 cI cZ cR a_p1_trade 4 p1_trade_r)) (w' := (wd_J7_fill_53178 cI cZ cR a_p1_trade 4 r1)) [3] hP hD hS hA rfl rfl rfl (rnS (As := [.ref a_p1_trade, .int (-1 : Int32)]) X [3] hK hP hD rfl rfl (c_J7_fill_53178 l D cI cZ cR hr2) ⟨callB_of 2 hts ggX10_seek_J7_fill_53178 rfl rfl rfl (hts (.initialized RJ7) (by decide +kernel)) (hts (.methodLink RX10 30 yJ7_fill_53178) (by decide +kernel)) (by decide +kernel) ⟨Nat.le_of_ble_eq_true rfl, Nat.le_of_ble_eq_true rfl⟩, hts (.static yJ7_fill_53178) (by decide +kernel)⟩ rfl hl.1 rfl (Nat.le_of_ble_eq_true rfl) dX10_seek_10) (fun H locs hP hD hS => ?_)
  have hP : va_P D vwCl (wd_X10_seek cI cZ cR a_p1 a_p1_bits a_p1_trade a_t a_t_sets a_t_figures a_t_sums p1_in p1_fresh (1 : Int32) t_carrying t_count p1_bits_r r1 t_figures_r t_sets_r t_sums_r) H := hP
  have hD : va_D A (wd_X10_seek cI cZ cR a_p1 a_p1_bits a_p1_trade a_t a_t_sets a_t_figures a_t_sums p1_in p1_fresh (1 : Int32) t_carrying t_count p1_bits_r r1 t_figures_r t_sets_r t_sums_r) := hD
  refine lv_aload_n hx hb dX10_seek_13 rfl (lv_at hl 0 rfl) ?_
  refine lv_iconst (v := (0 : Int32)) hx hb dX10_seek_14 (by decide) ?_
  refine va_put (D := D) (ci := 9) (v := .int (0 : Int32)) (ty := .int) (C := RX10) (T := TX10) (N := 5) hx hb hts in_X10_seek_X10 tyX10 tyX10_ok nmX10 hown hK hP hD hS 1 rfl rfl 4 (by decide) (hts (.fieldLink RX10 36 "DivisionHall$Trader" "count" "I") (by decide +kernel)) (fun _ h9 => h9) rfl (by decide +kernel) rfl rfl (Nat.le_of_ble_eq_true rfl) dX10_seek_15 (fun H locs hP hD hS => ?_)
  have hP : va_P D vwCl (wd_X10_seek cI cZ cR a_p1 a_p1_bits a_p1_trade a_t a_t_sets a_t_figures a_t_sums p1_in p1_fresh (1 : Int32) t_carrying (0 : Int32) p1_bits_r r1 t_figures_r t_sets_r t_sums_r) H := hP
  have hD : va_D A (wd_X10_seek cI cZ cR a_p1 a_p1_bits a_p1_trade a_t a_t_sets a_t_figures a_t_sums p1_in p1_fresh (1 : Int32) t_carrying (0 : Int32) p1_bits_r r1 t_figures_r t_sets_r t_sums_r) := hD
  refine lv_aload_n hx hb dX10_seek_18 rfl (lv_at hl 0 rfl) ?_
  refine lv_aload_n hx hb dX10_seek_19 rfl (lv_at hl 1 rfl) ?_
  refine lv_iconst (v := (1 : Int32)) hx hb dX10_seek_20 (by decide) ?_
  obtain ⟨r3, hr4, hf⟩ := bnd hf
  refine wcallv (D := D) (cI := cI) (cZ := cZ) (cR := cR) (wc := (wd_X10_list cI cZ cR a_p1 a_p1_bits a_p1_trade a_t a_t_sets a_t_figures a_t_sums p1_in p1_fresh (1 : Int32) t_carrying (0 : Int32) p1_bits_r t_figures_r t_sets_r)) (w' := (wd_X10_list cI cZ cR a_p1 a_p1_bits a_p1_trade a_t a_t_sets a_t_figures a_t_sums p1_in p1_fresh (1 : Int32) t_carrying (r3.1) p1_bits_r (r3.2.1) (r3.2.2))) [0, 1, 2, 4, 5] hP hD hS hA rfl rfl rfl (rnV (As := [.ref a_p1, .int (1 : Int32)]) (ci := 9) (q0 := 1) X [0, 1, 2, 4, 5] hK hP hD rfl rfl rfl rfl (c_X10_list l D cI cZ cR hr4) (cwV 2 hts gX10_seek_X10_list rfl rfl rfl (by decide +kernel) ⟨Nat.le_of_ble_eq_true rfl, Nat.le_of_ble_eq_true rfl⟩) rfl hl.1 rfl (Nat.le_of_ble_eq_true rfl) dX10_seek_21) (fun H locs hP hD hS => ?_)
  have hP : va_P D vwCl (wd_X10_seek cI cZ cR a_p1 a_p1_bits a_p1_trade a_t a_t_sets a_t_figures a_t_sums p1_in p1_fresh (1 : Int32) t_carrying (r3.1) p1_bits_r r1 (r3.2.1) (r3.2.2) t_sums_r) H := hP
  have hD : va_D A (wd_X10_seek cI cZ cR a_p1 a_p1_bits a_p1_trade a_t a_t_sets a_t_figures a_t_sums p1_in p1_fresh (1 : Int32) t_carrying (r3.1) p1_bits_r r1 (r3.2.1) (r3.2.2) t_sums_r) := hD
  refine lv_aload_n hx hb dX10_seek_24 rfl (lv_at hl 0 rfl) ?_
  refine lv_aload_n hx hb dX10_seek_25 rfl (lv_at hl 0 rfl) ?_
  refine va_get (D := D) (ci := 9) (v := .int (r3.1)) (C := RX10) (T := TX10) (N := 5) hx hb hts in_X10_seek_X10 hown hK hP 1 rfl rfl 4 (by decide) (hts (.fieldLink RX10 36 "DivisionHall$Trader" "count" "I") (by decide +kernel)) (fun _ h9 => h9) rfl dX10_seek_26 ?_
  refine va_put (D := D) (ci := 9) (v := .int (r3.1)) (ty := .int) (C := RX10) (T := TX10) (N := 5) hx hb hts in_X10_seek_X10 tyX10 tyX10_ok nmX10 hown hK hP hD hS 1 rfl rfl 3 (by decide) (hts (.fieldLink RX10 44 "DivisionHall$Trader" "carrying" "I") (by decide +kernel)) (fun _ h9 => h9) rfl (by decide +kernel) rfl rfl (Nat.le_of_ble_eq_true rfl) dX10_seek_29 (fun H locs hP hD hS => ?_)
  have hP : va_P D vwCl (wd_X10_seek cI cZ cR a_p1 a_p1_bits a_p1_trade a_t a_t_sets a_t_figures a_t_sums p1_in p1_fresh (1 : Int32) (r3.1) (r3.1) p1_bits_r r1 (r3.2.1) (r3.2.2) t_sums_r) H := hP
  have hD : va_D A (wd_X10_seek cI cZ cR a_p1 a_p1_bits a_p1_trade a_t a_t_sets a_t_figures a_t_sums p1_in p1_fresh (1 : Int32) (r3.1) (r3.1) p1_bits_r r1 (r3.2.1) (r3.2.2) t_sums_r) := hD
  refine lv_aload_n hx hb dX10_seek_32 rfl (lv_at hl 0 rfl) ?_
  refine lv_aload_n hx hb dX10_seek_33 rfl (lv_at hl 1 rfl) ?_
  refine lv_iconst (v := (0 : Int32)) hx hb dX10_seek_34 (by decide) ?_
  obtain ⟨r5, hr6, hf⟩ := bnd hf
  refine wcallv (D := D) (cI := cI) (cZ := cZ) (cR := cR) (wc := (wd_X10_list cI cZ cR a_p1 a_p1_bits a_p1_trade a_t a_t_sets a_t_figures a_t_sums p1_in p1_fresh (1 : Int32) (r3.1) (r3.1) p1_bits_r (r3.2.1) (r3.2.2))) (w' := (wd_X10_list cI cZ cR a_p1 a_p1_bits a_p1_trade a_t a_t_sets a_t_figures a_t_sums p1_in p1_fresh (1 : Int32) (r3.1) (r5.1) p1_bits_r (r5.2.1) (r5.2.2))) [0, 1, 2, 4, 5] hP hD hS hA rfl rfl rfl (rnV (As := [.ref a_p1, .int (0 : Int32)]) (ci := 9) (q0 := 1) X [0, 1, 2, 4, 5] hK hP hD rfl rfl rfl rfl (c_X10_list l D cI cZ cR hr6) (cwV 2 hts gX10_seek_X10_list rfl rfl rfl (by decide +kernel) ⟨Nat.le_of_ble_eq_true rfl, Nat.le_of_ble_eq_true rfl⟩) rfl hl.1 rfl (Nat.le_of_ble_eq_true rfl) dX10_seek_35) (fun H locs hP hD hS => ?_)
  have hP : va_P D vwCl (wd_X10_seek cI cZ cR a_p1 a_p1_bits a_p1_trade a_t a_t_sets a_t_figures a_t_sums p1_in p1_fresh (1 : Int32) (r3.1) (r5.1) p1_bits_r r1 (r5.2.1) (r5.2.2) t_sums_r) H := hP
  have hD : va_D A (wd_X10_seek cI cZ cR a_p1 a_p1_bits a_p1_trade a_t a_t_sets a_t_figures a_t_sums p1_in p1_fresh (1 : Int32) (r3.1) (r5.1) p1_bits_r r1 (r5.2.1) (r5.2.2) t_sums_r) := hD
  refine lv_aload_n hx hb dX10_seek_38 rfl (lv_at hl 0 rfl) ?_
  refine va_get (D := D) (ci := 9) (v := .int (r3.1)) (C := RX10) (T := TX10) (N := 5) hx hb hts in_X10_seek_X10 hown hK hP 1 rfl rfl 3 (by decide) (hts (.fieldLink RX10 44 "DivisionHall$Trader" "carrying" "I") (by decide +kernel)) (fun _ h9 => h9) rfl dX10_seek_39 ?_
  refine lv_iconst (v := (1 : Int32)) hx hb dX10_seek_42 (by decide) ?_
  refine lv_icmp_le (tgt := 68) hx hb dX10_seek_43 (by decide) (fun c7 => ?_) (fun c7 => ?_)
  · have hf := ipos c7 hf
    cases hf
    exact retv X hK hP hD hS dX10_seek_68
  · have hf := ineg c7 hf
    refine lv_aload_n hx hb dX10_seek_46 rfl (lv_at hl 0 rfl) ?_
    refine va_get (D := D) (ci := 9) (v := .int (r5.1)) (C := RX10) (T := TX10) (N := 5) hx hb hts in_X10_seek_X10 hown hK hP 1 rfl rfl 4 (by decide) (hts (.fieldLink RX10 36 "DivisionHall$Trader" "count" "I") (by decide +kernel)) (fun _ h9 => h9) rfl dX10_seek_47 ?_
    refine lv_aload_n hx hb dX10_seek_50 rfl (lv_at hl 0 rfl) ?_
    refine va_get (D := D) (ci := 9) (v := .int (r3.1)) (C := RX10) (T := TX10) (N := 5) hx hb hts in_X10_seek_X10 hown hK hP 1 rfl rfl 3 (by decide) (hts (.fieldLink RX10 44 "DivisionHall$Trader" "carrying" "I") (by decide +kernel)) (fun _ h9 => h9) rfl dX10_seek_51 ?_
    refine lv_isub hx hb dX10_seek_54 ?_
    refine lv_iconst (v := (1 : Int32)) hx hb dX10_seek_55 (by decide) ?_
    refine lv_icmp_le (tgt := 68) hx hb dX10_seek_56 (by decide) (fun c8 => ?_) (fun c8 => ?_)
    · have hf := ipos c8 hf
      cases hf
      exact retv X hK hP hD hS dX10_seek_68
    · have hf := ineg c8 hf
      refine lv_aload_n hx hb dX10_seek_59 rfl (lv_at hl 0 rfl) ?_
      obtain ⟨r9, hr10, hf⟩ := bnd hf
      refine wcallv (D := D) (cI := cI) (cZ := cZ) (cR := cR) (wc := (wd_X10_markSums cI cZ cR a_t a_t_sets a_t_figures a_t_sums (r3.1) (r5.1) (r5.2.1) t_sums_r)) (w' := (wd_X10_markSums cI cZ cR a_t a_t_sets a_t_figures a_t_sums (r3.1) (r5.1) (r5.2.1) r9)) [1, 4, 6] hP hD hS hA rfl rfl rfl (rnV (As := []) (ci := 9) (q0 := 1) X [1, 4, 6] hK hP hD rfl rfl rfl rfl (c_X10_markSums l D cI cZ cR hr10) (cwV 0 hts gX10_seek_X10_markSums rfl rfl rfl (by decide +kernel) ⟨Nat.le_of_ble_eq_true rfl, Nat.le_of_ble_eq_true rfl⟩) rfl hl.1 rfl (Nat.le_of_ble_eq_true rfl) dX10_seek_60) (fun H locs hP hD hS => ?_)
      have hP : va_P D vwCl (wd_X10_seek cI cZ cR a_p1 a_p1_bits a_p1_trade a_t a_t_sets a_t_figures a_t_sums p1_in p1_fresh (1 : Int32) (r3.1) (r5.1) p1_bits_r r1 (r5.2.1) (r5.2.2) r9) H := hP
      have hD : va_D A (wd_X10_seek cI cZ cR a_p1 a_p1_bits a_p1_trade a_t a_t_sets a_t_figures a_t_sums p1_in p1_fresh (1 : Int32) (r3.1) (r5.1) p1_bits_r r1 (r5.2.1) (r5.2.2) r9) := hD
      refine lv_aload_n hx hb dX10_seek_63 rfl (lv_at hl 0 rfl) ?_
      refine lv_aload_n hx hb dX10_seek_64 rfl (lv_at hl 1 rfl) ?_
      obtain ⟨r11, hr12, hf⟩ := bnd hf
      refine wcallvA (D := D) (cI := cI) (cZ := cZ) (cR := cR) (wc := (wd_X10_findPair cI cZ cR a_p1 a_p1_bits a_p1_trade a_t a_t_sets a_t_figures a_t_sums p1_in p1_fresh (1 : Int32) (r3.1) (r5.1) p1_bits_r r1 (r5.2.1) (r5.2.2) r9)) (w' := (wd_X10_findPair cI cZ cR a_p1 a_p1_bits a_p1_trade a_t a_t_sets a_t_figures a_t_sums p1_in p1_fresh (1 : Int32) (r3.1) (r5.1) p1_bits_r r11 (r5.2.1) (r5.2.2) r9)) hP hD hS hA rfl (rnVA (As := [.ref a_p1]) (ci := 9) (q0 := 1) X hK hP hD rfl rfl (c_X10_findPair l D cI cZ cR hr12) (cwV 1 hts gX10_seek_X10_findPair rfl rfl rfl (by decide +kernel) ⟨Nat.le_of_ble_eq_true rfl, Nat.le_of_ble_eq_true rfl⟩) rfl hl.1 rfl (Nat.le_of_ble_eq_true rfl) dX10_seek_65) (fun H locs hP hD hS => ?_)
      have hP : va_P D vwCl (wd_X10_seek cI cZ cR a_p1 a_p1_bits a_p1_trade a_t a_t_sets a_t_figures a_t_sums p1_in p1_fresh (1 : Int32) (r3.1) (r5.1) p1_bits_r r11 (r5.2.1) (r5.2.2) r9) H := hP
      have hD : va_D A (wd_X10_seek cI cZ cR a_p1 a_p1_bits a_p1_trade a_t a_t_sets a_t_figures a_t_sums p1_in p1_fresh (1 : Int32) (r3.1) (r5.1) p1_bits_r r11 (r5.2.1) (r5.2.2) r9) := hD
      cases hf
      exact retv X hK hP hD hS dX10_seek_68
