abbrev wd_X10_findOthers (cI cZ cR : ClassId) (a_p1 a_p1_bits a_p1_trade a_t a_t_sets a_t_figures a_t_sums : Nat) (p1_in p1_fresh p1_tradeSought t_carrying t_count : Int32) (p1_bits_r : Nat → Int32) (p1_trade_r : Nat → Int32) (t_sets_r : Nat → Int32) : va_W := [(a_p1, oB 8 [.ref a_p1_bits, .ref a_p1_trade, .int p1_in, .int p1_fresh, .int p1_tradeSought]), (a_t, oB 9 [.ref a_t_sets, .ref a_t_figures, .ref a_t_sums, .int t_carrying, .int t_count]), (a_p1_bits, aI cI 32 p1_bits_r), (a_p1_trade, aI cI 4 p1_trade_r), (a_t_sets, aI cI 1024 t_sets_r)]
set_option maxRecDepth 100000 in
theorem in_X10_findOthers_X10 : ∀ w ∈ wsX100, w ∈ wsX10_findOthers := by decide +kernel
set_option maxRecDepth 100000 in
theorem in_X10_findOthers_X9 : ∀ w ∈ wsX90, w ∈ wsX10_findOthers := by decide +kernel
set_option maxHeartbeats 4000000 in
set_option maxRecDepth 100000 in
theorem w_X10_findOthers_91 {p : Program} {l : Launch} {e : Env} {s : State} {m : MethodId} {args : Array Value} {below : List Frame} {meth : Method} {c : Code} {D : va_G} {cI cZ cR : ClassId} {A : Nat → Prop} {a_p1 a_p1_bits a_p1_trade a_t a_t_sets a_t_figures a_t_sums : Nat} {p1_in : Int32} {p1_fresh : Int32} {p1_tradeSought : Int32} {t_carrying : Int32} {t_count : Int32} {p1_bits_r : Nat → Int32} {t_sets_r : Nat → Int32} {x2 : Int32} {x3 : Int32} {out : (Nat → Int32)} (X : cx p s m args meth c cX10_findOthers 9 none RX10 wsX10_findOthers) (hK : va_K D vwCl (ty3 cI cZ cR) s) (hA : ∀ q, s.heap.size ≤ q → A q) : ∀ (x7 : Int32) (x8 : Int32) (p1_trade_r : Nat → Int32), F_X10_findOthers_91 x2 x3 p1_bits_r t_carrying t_count t_sets_r x7 x8 p1_trade_r = some out → ∀ (H : Heap) (locs : List Loc), va_P D vwCl (wd_X10_findOthers cI cZ cR a_p1 a_p1_bits a_p1_trade a_t a_t_sets a_t_figures a_t_sums p1_in p1_fresh p1_tradeSought t_carrying t_count p1_bits_r p1_trade_r t_sets_r) H → va_D A (wd_X10_findOthers cI cZ cR a_p1 a_p1_bits a_p1_trade a_t a_t_sets a_t_figures a_t_sums p1_in p1_fresh p1_tradeSought t_carrying t_count p1_bits_r p1_trade_r t_sets_r) → va_S A s.heap H locs → ∀ (ls : Array Slot), lv_has ls 9 [(1, .ref a_p1), (2, .int x2), (3, .int x3), (7, .int x7), (8, .int x8)] → W p l e (headSpec wsX10_findOthers ({ frames := 2, cells := 0, slots := 0, locals := 42 } : Room)).room s m args below meth c H locs 0 0 (MQ below (qv D cI cZ cR A (wd_X10_findOthers cI cZ cR a_p1 a_p1_bits a_p1_trade a_t a_t_sets a_t_figures a_t_sums p1_in p1_fresh p1_tradeSought t_carrying t_count p1_bits_r out t_sets_r)) args s 0 0 A) (F0 m 91 ls []) := by
  obtain ⟨hx, hb, hml, hr, hown, hts, hlocks, hN⟩ := id X
  intro x7 x8 p1_trade_r hf H locs hP hD hS ls hl
  unfold F_X10_findOthers_91 at hf
  refine lv_aload_n hx hb dX10_findOthers_91 rfl (lv_at hl 0 rfl) ?_
  refine va_getN (D := D) (ci := 8) (v := .ref a_p1_trade) (C := RX9) (T := TX9) (N := 5) hx hb hts in_X10_findOthers_X9 hown hK hP 0 rfl rfl 1 (by decide) (va_Nw.use rfl (hN.1 ("DivisionHall$Trader", 27, "DivisionHall$Table", "trade", "[I", "DivisionHall") (by decide +kernel))) (fun _ h9 => h9) rfl dX10_findOthers_92 ?_
  refine lv_iconst (v := (0 : Int32)) hx hb dX10_findOthers_95 (by decide) ?_
  refine lv_iload_n hx hb dX10_findOthers_96 rfl (lv_at hl 1 rfl) ?_
  obtain ⟨hi14, hf⟩ := gin_s hf
  refine va_iast hx hb hK hP hD hS 3 0 rfl rfl hi14 dX10_findOthers_97 (fun H locs hP hD hS => ?_)
  have hP : va_P D vwCl (wd_X10_findOthers cI cZ cR a_p1 a_p1_bits a_p1_trade a_t a_t_sets a_t_figures a_t_sums p1_in p1_fresh p1_tradeSought t_carrying t_count p1_bits_r (upd p1_trade_r ((0 : Int32)).toNatClampNeg x2) t_sets_r) H := hP
  have hD : va_D A (wd_X10_findOthers cI cZ cR a_p1 a_p1_bits a_p1_trade a_t a_t_sets a_t_figures a_t_sums p1_in p1_fresh p1_tradeSought t_carrying t_count p1_bits_r (upd p1_trade_r ((0 : Int32)).toNatClampNeg x2) t_sets_r) := hD
  refine lv_aload_n hx hb dX10_findOthers_98 rfl (lv_at hl 0 rfl) ?_
  refine va_getN (D := D) (ci := 8) (v := .ref a_p1_trade) (C := RX9) (T := TX9) (N := 5) hx hb hts in_X10_findOthers_X9 hown hK hP 0 rfl rfl 1 (by decide) (va_Nw.use rfl (hN.1 ("DivisionHall$Trader", 27, "DivisionHall$Table", "trade", "[I", "DivisionHall") (by decide +kernel))) (fun _ h9 => h9) rfl dX10_findOthers_99 ?_
  refine lv_iconst (v := (1 : Int32)) hx hb dX10_findOthers_102 (by decide) ?_
  refine lv_iload_n hx hb dX10_findOthers_103 rfl (lv_at hl 2 rfl) ?_
  obtain ⟨hi15, hf⟩ := gin_s hf
  refine va_iast hx hb hK hP hD hS 3 0 rfl rfl hi15 dX10_findOthers_104 (fun H locs hP hD hS => ?_)
  have hP : va_P D vwCl (wd_X10_findOthers cI cZ cR a_p1 a_p1_bits a_p1_trade a_t a_t_sets a_t_figures a_t_sums p1_in p1_fresh p1_tradeSought t_carrying t_count p1_bits_r (upd (upd p1_trade_r ((0 : Int32)).toNatClampNeg x2) ((1 : Int32)).toNatClampNeg x3) t_sets_r) H := hP
  have hD : va_D A (wd_X10_findOthers cI cZ cR a_p1 a_p1_bits a_p1_trade a_t a_t_sets a_t_figures a_t_sums p1_in p1_fresh p1_tradeSought t_carrying t_count p1_bits_r (upd (upd p1_trade_r ((0 : Int32)).toNatClampNeg x2) ((1 : Int32)).toNatClampNeg x3) t_sets_r) := hD
  refine lv_aload_n hx hb dX10_findOthers_105 rfl (lv_at hl 0 rfl) ?_
  refine va_getN (D := D) (ci := 8) (v := .ref a_p1_trade) (C := RX9) (T := TX9) (N := 5) hx hb hts in_X10_findOthers_X9 hown hK hP 0 rfl rfl 1 (by decide) (va_Nw.use rfl (hN.1 ("DivisionHall$Trader", 27, "DivisionHall$Table", "trade", "[I", "DivisionHall") (by decide +kernel))) (fun _ h9 => h9) rfl dX10_findOthers_106 ?_
  refine lv_iconst (v := (2 : Int32)) hx hb dX10_findOthers_109 (by decide) ?_
  refine lv_iload hx hb dX10_findOthers_110 (lv_at hl 3 rfl) ?_
  obtain ⟨hi16, hf⟩ := gin_s hf
  refine va_iast hx hb hK hP hD hS 3 0 rfl rfl hi16 dX10_findOthers_112 (fun H locs hP hD hS => ?_)
  have hP : va_P D vwCl (wd_X10_findOthers cI cZ cR a_p1 a_p1_bits a_p1_trade a_t a_t_sets a_t_figures a_t_sums p1_in p1_fresh p1_tradeSought t_carrying t_count p1_bits_r (upd (upd (upd p1_trade_r ((0 : Int32)).toNatClampNeg x2) ((1 : Int32)).toNatClampNeg x3) ((2 : Int32)).toNatClampNeg x7) t_sets_r) H := hP
  have hD : va_D A (wd_X10_findOthers cI cZ cR a_p1 a_p1_bits a_p1_trade a_t a_t_sets a_t_figures a_t_sums p1_in p1_fresh p1_tradeSought t_carrying t_count p1_bits_r (upd (upd (upd p1_trade_r ((0 : Int32)).toNatClampNeg x2) ((1 : Int32)).toNatClampNeg x3) ((2 : Int32)).toNatClampNeg x7) t_sets_r) := hD
  refine lv_aload_n hx hb dX10_findOthers_113 rfl (lv_at hl 0 rfl) ?_
  refine va_getN (D := D) (ci := 8) (v := .ref a_p1_trade) (C := RX9) (T := TX9) (N := 5) hx hb hts in_X10_findOthers_X9 hown hK hP 0 rfl rfl 1 (by decide) (va_Nw.use rfl (hN.1 ("DivisionHall$Trader", 27, "DivisionHall$Table", "trade", "[I", "DivisionHall") (by decide +kernel))) (fun _ h9 => h9) rfl dX10_findOthers_114 ?_
  refine lv_iconst (v := (3 : Int32)) hx hb dX10_findOthers_117 (by decide) ?_
  refine lv_iload hx hb dX10_findOthers_118 (lv_at hl 4 rfl) ?_
  obtain ⟨hi17, hf⟩ := gin_s hf
  refine va_iast hx hb hK hP hD hS 3 0 rfl rfl hi17 dX10_findOthers_120 (fun H locs hP hD hS => ?_)
  have hP : va_P D vwCl (wd_X10_findOthers cI cZ cR a_p1 a_p1_bits a_p1_trade a_t a_t_sets a_t_figures a_t_sums p1_in p1_fresh p1_tradeSought t_carrying t_count p1_bits_r (upd (upd (upd (upd p1_trade_r ((0 : Int32)).toNatClampNeg x2) ((1 : Int32)).toNatClampNeg x3) ((2 : Int32)).toNatClampNeg x7) ((3 : Int32)).toNatClampNeg x8) t_sets_r) H := hP
  have hD : va_D A (wd_X10_findOthers cI cZ cR a_p1 a_p1_bits a_p1_trade a_t a_t_sets a_t_figures a_t_sums p1_in p1_fresh p1_tradeSought t_carrying t_count p1_bits_r (upd (upd (upd (upd p1_trade_r ((0 : Int32)).toNatClampNeg x2) ((1 : Int32)).toNatClampNeg x3) ((2 : Int32)).toNatClampNeg x7) ((3 : Int32)).toNatClampNeg x8) t_sets_r) := hD
  cases hf
  exact retv X hK hP hD hS dX10_findOthers_121
set_option maxHeartbeats 4000000 in
set_option maxRecDepth 100000 in
theorem w_X10_findOthers_16 {p : Program} {l : Launch} {e : Env} {s : State} {m : MethodId} {args : Array Value} {below : List Frame} {meth : Method} {c : Code} {D : va_G} {cI cZ cR : ClassId} {A : Nat → Prop} {a_p1 a_p1_bits a_p1_trade a_t a_t_sets a_t_figures a_t_sums : Nat} {p1_in : Int32} {p1_fresh : Int32} {p1_tradeSought : Int32} {t_carrying : Int32} {t_count : Int32} {p1_bits_r : Nat → Int32} {t_sets_r : Nat → Int32} {x2 : Int32} {x3 : Int32} {out : (Nat → Int32)} (X : cx p s m args meth c cX10_findOthers 9 none RX10 wsX10_findOthers) (hK : va_K D vwCl (ty3 cI cZ cR) s) (hA : ∀ q, s.heap.size ≤ q → A q) : ∀ (n : Nat) (x4 : Int32) (x5 : Int32) (x6 : Int32) (p1_trade_r : Nat → Int32), F_X10_findOthers_16 x2 x3 p1_bits_r t_carrying t_count t_sets_r n x4 x5 x6 p1_trade_r = some out → ∀ (H : Heap) (locs : List Loc), va_P D vwCl (wd_X10_findOthers cI cZ cR a_p1 a_p1_bits a_p1_trade a_t a_t_sets a_t_figures a_t_sums p1_in p1_fresh p1_tradeSought t_carrying t_count p1_bits_r p1_trade_r t_sets_r) H → va_D A (wd_X10_findOthers cI cZ cR a_p1 a_p1_bits a_p1_trade a_t a_t_sets a_t_figures a_t_sums p1_in p1_fresh p1_tradeSought t_carrying t_count p1_bits_r p1_trade_r t_sets_r) → va_S A s.heap H locs → ∀ (ls : Array Slot), lv_has ls 9 [(0, .ref a_t), (1, .ref a_p1), (2, .int x2), (3, .int x3), (4, .int x4), (5, .int x5), (6, .int x6)] → W p l e (headSpec wsX10_findOthers ({ frames := 2, cells := 0, slots := 0, locals := 42 } : Room)).room s m args below meth c H locs 0 0 (MQ below (qv D cI cZ cR A (wd_X10_findOthers cI cZ cR a_p1 a_p1_bits a_p1_trade a_t a_t_sets a_t_figures a_t_sums p1_in p1_fresh p1_tradeSought t_carrying t_count p1_bits_r out t_sets_r)) args s 0 0 A) (F0 m 16 ls []) := by
  obtain ⟨hx, hb, hml, hr, hown, hts, hlocks, hN⟩ := id X
  intro n
  induction n with
  | zero =>
    intro x4 x5 x6 p1_trade_r hf
    cases (show (none : Option ((Nat → Int32))) = some out from hf)
  | succ n ih =>
    intro x4 x5 x6 p1_trade_r hf H locs hP hD hS ls hl
    rw [F_X10_findOthers_16] at hf
    refine lv_iload hx hb dX10_findOthers_16 (lv_at hl 6 rfl) ?_
    refine lv_aload_n hx hb dX10_findOthers_18 rfl (lv_at hl 0 rfl) ?_
    refine va_get (D := D) (ci := 9) (v := .int t_count) (C := RX10) (T := TX10) (N := 5) hx hb hts in_X10_findOthers_X10 hown hK hP 1 rfl rfl 4 (by decide) (hts (.fieldLink RX10 36 "DivisionHall$Trader" "count" "I") (by decide +kernel)) (fun _ h9 => h9) rfl dX10_findOthers_19 ?_
    refine lv_icmp_ge (tgt := 128) hx hb dX10_findOthers_22 (by decide) (fun c1 => ?_) (fun c1 => ?_)
    · have hf := ipos c1 hf
      cases hf
      exact retv X hK hP hD hS dX10_findOthers_128
    · have hf := ineg c1 hf
      refine lv_iload hx hb dX10_findOthers_25 (lv_at hl 6 rfl) ?_
      refine lv_sipush (v := (1024 : Int32)) hx hb dX10_findOthers_27 (by decide) ?_
      refine lv_icmp_ge (tgt := 128) hx hb dX10_findOthers_30 (by decide) (fun c2 => ?_) (fun c2 => ?_)
      · have hf := ipos c2 hf
        cases hf
        exact retv X hK hP hD hS dX10_findOthers_128
      · have hf := ineg c2 hf
        refine lv_aload_n hx hb dX10_findOthers_33 rfl (lv_at hl 0 rfl) ?_
        refine va_get (D := D) (ci := 9) (v := .ref a_t_sets) (C := RX10) (T := TX10) (N := 5) hx hb hts in_X10_findOthers_X10 hown hK hP 1 rfl rfl 0 (by decide) (hts (.fieldLink RX10 9 "DivisionHall$Trader" "sets" "[I") (by decide +kernel)) (fun _ h9 => h9) rfl dX10_findOthers_34 ?_
        refine lv_iload hx hb dX10_findOthers_37 (lv_at hl 6 rfl) ?_
        obtain ⟨hi3, hf⟩ := gin_s hf
        refine va_iald hx hb hK hP 4 0 rfl rfl hi3 dX10_findOthers_39 ?_
        refine lv_istore (lv' := [(7, .int (t_sets_r (x6).toNatClampNeg)), (0, .ref a_t), (1, .ref a_p1), (2, .int x2), (3, .int x3), (4, .int x4), (5, .int x5), (6, .int x6)]) hx hb dX10_findOthers_40 hl (by decide) rfl (fun ls hl => ?_)
        refine lv_iload hx hb dX10_findOthers_42 (lv_at hl 5 rfl) ?_
        refine lv_iload hx hb dX10_findOthers_44 (lv_at hl 6 rfl) ?_
        refine lv_iload hx hb dX10_findOthers_46 (lv_at hl 0 rfl) ?_
        refine lv_iconst (v := (-1 : Int32)) hx hb dX10_findOthers_48 (by decide) ?_
        refine lv_ixor hx hb dX10_findOthers_49 ?_
        refine lv_iand hx hb dX10_findOthers_50 ?_
        refine lv_ior hx hb dX10_findOthers_51 ?_
        refine lv_istore (lv' := [(8, .int (x4 ||| (x5 &&& ((t_sets_r (x6).toNatClampNeg) ^^^ (-1 : Int32))))), (7, .int (t_sets_r (x6).toNatClampNeg)), (0, .ref a_t), (1, .ref a_p1), (2, .int x2), (3, .int x3), (4, .int x4), (5, .int x5), (6, .int x6)]) hx hb dX10_findOthers_52 hl (by decide) rfl (fun ls hl => ?_)
        refine lv_iload hx hb dX10_findOthers_54 (lv_at hl 1 rfl) ?_
        refine lv_iload_n hx hb dX10_findOthers_56 rfl (lv_at hl 4 rfl) ?_
        refine lv_iload_n hx hb dX10_findOthers_57 rfl (lv_at hl 5 rfl) ?_
        refine lv_ior hx hb dX10_findOthers_58 ?_
        obtain ⟨r4, hr5, hf⟩ := bnd hf
        refine wcalli (D := D) (cI := cI) (cZ := cZ) (cR := cR) (wc := (wd_X11_isWithin cI cZ cR)) (w' := (wd_X11_isWithin cI cZ cR)) [] hP hD hS hA rfl rfl rfl (rnSN (As := [.int (t_sets_r (x6).toNatClampNeg), .int (x2 ||| x3)]) X [] hK hP hD rfl rfl (c_X11_isWithin l D cI cZ cR hr5) ⟨va_cnB (host := "DivisionHall") 2 hts ggX10_findOthers_X11_isWithin rfl rfl rfl (hN.2.1 ("DivisionHall$Trader", 57, yX11_isWithin, "DivisionHall") (by decide +kernel)) (hts (.initialized RX11) (by decide +kernel)) (by decide +kernel) ⟨Nat.le_of_ble_eq_true rfl, Nat.le_of_ble_eq_true rfl⟩, hts (.static yX11_isWithin) (by decide +kernel), trivial⟩ rfl hl.1 rfl (Nat.le_of_ble_eq_true rfl) dX10_findOthers_59) (fun H locs hP hD hS => ?_)
        have hP : va_P D vwCl (wd_X10_findOthers cI cZ cR a_p1 a_p1_bits a_p1_trade a_t a_t_sets a_t_figures a_t_sums p1_in p1_fresh p1_tradeSought t_carrying t_count p1_bits_r p1_trade_r t_sets_r) H := hP
        have hD : va_D A (wd_X10_findOthers cI cZ cR a_p1 a_p1_bits a_p1_trade a_t a_t_sets a_t_figures a_t_sums p1_in p1_fresh p1_tradeSought t_carrying t_count p1_bits_r p1_trade_r t_sets_r) := hD
        refine lv_if_eq (tgt := 122) hx hb dX10_findOthers_62 (by decide) (fun c6 => ?_) (fun c6 => ?_)
        · have hf := ipos c6 hf
          refine lv_iinc (v := (x6 + (1 : Int32))) (lv' := [(6, .int (x6 + (1 : Int32))), (8, .int (x4 ||| (x5 &&& ((t_sets_r (x6).toNatClampNeg) ^^^ (-1 : Int32))))), (7, .int (t_sets_r (x6).toNatClampNeg)), (0, .ref a_t), (1, .ref a_p1), (2, .int x2), (3, .int x3), (4, .int x4), (5, .int x5)]) hx hb dX10_findOthers_122 hl (k := 8) rfl rfl (by decide) rfl (fun ls hl => ?_)
          refine lv_goto (tgt := 16) hx hb dX10_findOthers_125 (by decide) ?_
          exact ih x4 x5 (x6 + (1 : Int32)) p1_trade_r hf _ _ hP hD hS _ (lv_sub hl [3, 4, 5, 6, 7, 8, 0] rfl)
        · have hf := ineg c6 hf
          refine lv_iload hx hb dX10_findOthers_65 (lv_at hl 6 rfl) ?_
          refine lv_iload hx hb dX10_findOthers_67 (lv_at hl 1 rfl) ?_
          obtain ⟨r7, hr8, hf⟩ := bnd hf
          refine wcalli (D := D) (cI := cI) (cZ := cZ) (cR := cR) (wc := (wd_X11_isWithin cI cZ cR)) (w' := (wd_X11_isWithin cI cZ cR)) [] hP hD hS hA rfl rfl rfl (rnSN (As := [.int x4, .int (t_sets_r (x6).toNatClampNeg)]) X [] hK hP hD rfl rfl (c_X11_isWithin l D cI cZ cR hr8) ⟨va_cnB (host := "DivisionHall") 2 hts ggX10_findOthers_X11_isWithin rfl rfl rfl (hN.2.1 ("DivisionHall$Trader", 57, yX11_isWithin, "DivisionHall") (by decide +kernel)) (hts (.initialized RX11) (by decide +kernel)) (by decide +kernel) ⟨Nat.le_of_ble_eq_true rfl, Nat.le_of_ble_eq_true rfl⟩, hts (.static yX11_isWithin) (by decide +kernel), trivial⟩ rfl hl.1 rfl (Nat.le_of_ble_eq_true rfl) dX10_findOthers_69) (fun H locs hP hD hS => ?_)
          have hP : va_P D vwCl (wd_X10_findOthers cI cZ cR a_p1 a_p1_bits a_p1_trade a_t a_t_sets a_t_figures a_t_sums p1_in p1_fresh p1_tradeSought t_carrying t_count p1_bits_r p1_trade_r t_sets_r) H := hP
          have hD : va_D A (wd_X10_findOthers cI cZ cR a_p1 a_p1_bits a_p1_trade a_t a_t_sets a_t_figures a_t_sums p1_in p1_fresh p1_tradeSought t_carrying t_count p1_bits_r p1_trade_r t_sets_r) := hD
          refine lv_if_eq (tgt := 122) hx hb dX10_findOthers_72 (by decide) (fun c9 => ?_) (fun c9 => ?_)
          · have hf := ipos c9 hf
            refine lv_iinc (v := (x6 + (1 : Int32))) (lv' := [(6, .int (x6 + (1 : Int32))), (8, .int (x4 ||| (x5 &&& ((t_sets_r (x6).toNatClampNeg) ^^^ (-1 : Int32))))), (7, .int (t_sets_r (x6).toNatClampNeg)), (0, .ref a_t), (1, .ref a_p1), (2, .int x2), (3, .int x3), (4, .int x4), (5, .int x5)]) hx hb dX10_findOthers_122 hl (k := 8) rfl rfl (by decide) rfl (fun ls hl => ?_)
            refine lv_goto (tgt := 16) hx hb dX10_findOthers_125 (by decide) ?_
            exact ih x4 x5 (x6 + (1 : Int32)) p1_trade_r hf _ _ hP hD hS _ (lv_sub hl [3, 4, 5, 6, 7, 8, 0] rfl)
          · have hf := ineg c9 hf
            refine lv_iload hx hb dX10_findOthers_75 (lv_at hl 1 rfl) ?_
            refine lv_iload hx hb dX10_findOthers_77 (lv_at hl 0 rfl) ?_
            refine lv_icmp_ge (tgt := 122) hx hb dX10_findOthers_79 (by decide) (fun c10 => ?_) (fun c10 => ?_)
            · have hf := ipos c10 hf
              refine lv_iinc (v := (x6 + (1 : Int32))) (lv' := [(6, .int (x6 + (1 : Int32))), (8, .int (x4 ||| (x5 &&& ((t_sets_r (x6).toNatClampNeg) ^^^ (-1 : Int32))))), (7, .int (t_sets_r (x6).toNatClampNeg)), (0, .ref a_t), (1, .ref a_p1), (2, .int x2), (3, .int x3), (4, .int x4), (5, .int x5)]) hx hb dX10_findOthers_122 hl (k := 8) rfl rfl (by decide) rfl (fun ls hl => ?_)
              refine lv_goto (tgt := 16) hx hb dX10_findOthers_125 (by decide) ?_
              exact ih x4 x5 (x6 + (1 : Int32)) p1_trade_r hf _ _ hP hD hS _ (lv_sub hl [3, 4, 5, 6, 7, 8, 0] rfl)
            · have hf := ineg c10 hf
              refine lv_aload_n hx hb dX10_findOthers_82 rfl (lv_at hl 3 rfl) ?_
              refine lv_iload hx hb dX10_findOthers_83 (lv_at hl 0 rfl) ?_
              obtain ⟨r11, hr12, hf⟩ := bnd hf
              refine wcalli (D := D) (cI := cI) (cZ := cZ) (cR := cR) (wc := (wd_X9_at cI cZ cR a_p1 a_p1_bits a_p1_trade p1_in p1_fresh p1_tradeSought p1_bits_r)) (w' := (wd_X9_at cI cZ cR a_p1 a_p1_bits a_p1_trade p1_in p1_fresh p1_tradeSought p1_bits_r)) [0, 2] hP hD hS hA rfl rfl rfl (rnV (As := [.int (x4 ||| (x5 &&& ((t_sets_r (x6).toNatClampNeg) ^^^ (-1 : Int32))))]) (ci := 8) (q0 := 0) X [0, 2] hK hP hD rfl rfl rfl rfl (c_X9_at l D cI cZ cR hr12) (cwV 1 hts gX10_findOthers_X9_at rfl rfl rfl (by decide +kernel) ⟨Nat.le_of_ble_eq_true rfl, Nat.le_of_ble_eq_true rfl⟩) rfl hl.1 rfl (Nat.le_of_ble_eq_true rfl) dX10_findOthers_85) (fun H locs hP hD hS => ?_)
              have hP : va_P D vwCl (wd_X10_findOthers cI cZ cR a_p1 a_p1_bits a_p1_trade a_t a_t_sets a_t_figures a_t_sums p1_in p1_fresh p1_tradeSought t_carrying t_count p1_bits_r p1_trade_r t_sets_r) H := hP
              have hD : va_D A (wd_X10_findOthers cI cZ cR a_p1 a_p1_bits a_p1_trade a_t a_t_sets a_t_figures a_t_sums p1_in p1_fresh p1_tradeSought t_carrying t_count p1_bits_r p1_trade_r t_sets_r) := hD
              refine lv_if_ne (tgt := 122) hx hb dX10_findOthers_88 (by decide) (fun c13 => ?_) (fun c13 => ?_)
              · have hf := ineg c13 hf
                refine lv_iinc (v := (x6 + (1 : Int32))) (lv' := [(6, .int (x6 + (1 : Int32))), (8, .int (x4 ||| (x5 &&& ((t_sets_r (x6).toNatClampNeg) ^^^ (-1 : Int32))))), (7, .int (t_sets_r (x6).toNatClampNeg)), (0, .ref a_t), (1, .ref a_p1), (2, .int x2), (3, .int x3), (4, .int x4), (5, .int x5)]) hx hb dX10_findOthers_122 hl (k := 8) rfl rfl (by decide) rfl (fun ls hl => ?_)
                refine lv_goto (tgt := 16) hx hb dX10_findOthers_125 (by decide) ?_
                exact ih x4 x5 (x6 + (1 : Int32)) p1_trade_r hf _ _ hP hD hS _ (lv_sub hl [3, 4, 5, 6, 7, 8, 0] rfl)
              · have hf := ipos c13 hf
                exact w_X10_findOthers_91 X hK hA (t_sets_r (x6).toNatClampNeg) (x4 ||| (x5 &&& ((t_sets_r (x6).toNatClampNeg) ^^^ (-1 : Int32)))) p1_trade_r hf _ _ hP hD hS _ (lv_sub hl [3, 4, 5, 1, 0] rfl)
set_option maxHeartbeats 4000000 in
set_option maxRecDepth 100000 in
theorem c_X10_findOthers (l : Launch) (D : va_G) (cI cZ cR : ClassId) {a_p1 a_p1_bits a_p1_trade a_t a_t_sets a_t_figures a_t_sums : Nat} {p1_in : Int32} {p1_fresh : Int32} {p1_tradeSought : Int32} {t_carrying : Int32} {t_count : Int32} {p1_bits_r : Nat → Int32} {p1_trade_r : Nat → Int32} {t_sets_r : Nat → Int32} {x2 : Int32} {x3 : Int32} {sz : Nat} {out : (Nat → Int32)} (hf : F_X10_findOthers x2 x3 p1_bits_r p1_trade_r t_carrying t_count t_sets_r = some out) : CV l yX10_findOthers wsX10_findOthers ({ frames := 2, cells := 0, slots := 0, locals := 42 } : Room) D cI cZ cR [.ref a_t, .ref a_p1, .int x2, .int x3] (wd_X10_findOthers cI cZ cR a_p1 a_p1_bits a_p1_trade a_t a_t_sets a_t_figures a_t_sums p1_in p1_fresh p1_tradeSought t_carrying t_count p1_bits_r p1_trade_r t_sets_r) sz (wd_X10_findOthers cI cZ cR a_p1 a_p1_bits a_p1_trade a_t a_t_sets a_t_figures a_t_sums p1_in p1_fresh p1_tradeSought t_carrying t_count p1_bits_r out t_sets_r) := by
  refine met_of (Qf := fun A => qv D cI cZ cR A (wd_X10_findOthers cI cZ cR a_p1 a_p1_bits a_p1_trade a_t a_t_sets a_t_figures a_t_sums p1_in p1_fresh p1_tradeSought t_carrying t_count p1_bits_r out t_sets_r)) RX10 (by decide +kernel) rfl rfl (Nat.le_of_ble_eq_true rfl) ?_
  intro p e s m below meth c A X hK hA hP hD hS ls hl
  have hl : lv_has ls 9 [(0, .ref a_t), (1, .ref a_p1), (2, .int x2), (3, .int x3)] := hl
  obtain ⟨hx, hb, hml, hr, hown, hts, hlocks, hN⟩ := id X
  unfold F_X10_findOthers at hf
  refine lv_iload_n hx hb dX10_findOthers_0 rfl (lv_at hl 2 rfl) ?_
  refine lv_iload_n hx hb dX10_findOthers_1 rfl (lv_at hl 3 rfl) ?_
  refine lv_iand hx hb dX10_findOthers_2 ?_
  refine lv_istore (lv' := [(4, .int (x2 &&& x3)), (0, .ref a_t), (1, .ref a_p1), (2, .int x2), (3, .int x3)]) hx hb dX10_findOthers_3 hl (by decide) rfl (fun ls hl => ?_)
  refine lv_iload_n hx hb dX10_findOthers_5 rfl (lv_at hl 3 rfl) ?_
  refine lv_iload_n hx hb dX10_findOthers_6 rfl (lv_at hl 4 rfl) ?_
  refine lv_ixor hx hb dX10_findOthers_7 ?_
  refine lv_istore (lv' := [(5, .int (x2 ^^^ x3)), (4, .int (x2 &&& x3)), (0, .ref a_t), (1, .ref a_p1), (2, .int x2), (3, .int x3)]) hx hb dX10_findOthers_8 hl (by decide) rfl (fun ls hl => ?_)
  refine lv_aload_n hx hb dX10_findOthers_10 rfl (lv_at hl 2 rfl) ?_
  refine va_get (D := D) (ci := 9) (v := .int t_carrying) (C := RX10) (T := TX10) (N := 5) hx hb hts in_X10_findOthers_X10 hown hK hP 1 rfl rfl 3 (by decide) (hts (.fieldLink RX10 44 "DivisionHall$Trader" "carrying" "I") (by decide +kernel)) (fun _ h9 => h9) rfl dX10_findOthers_11 ?_
  refine lv_istore (lv' := [(6, .int t_carrying), (5, .int (x2 ^^^ x3)), (4, .int (x2 &&& x3)), (0, .ref a_t), (1, .ref a_p1), (2, .int x2), (3, .int x3)]) hx hb dX10_findOthers_14 hl (by decide) rfl (fun ls hl => ?_)
  exact w_X10_findOthers_16 X hK hA _ (x2 &&& x3) (x2 ^^^ x3) t_carrying p1_trade_r hf _ _ hP hD hS _ (lv_sub hl [3, 4, 5, 6, 2, 1, 0] rfl)

abbrev wd_X10_findPair (cI cZ cR : ClassId) (a_p1 a_p1_bits a_p1_trade a_t a_t_sets a_t_figures a_t_sums : Nat) (p1_in p1_fresh p1_tradeSought t_carrying t_count : Int32) (p1_bits_r : Nat → Int32) (p1_trade_r : Nat → Int32) (t_figures_r : Nat → Int32) (t_sets_r : Nat → Int32) (t_sums_r : Nat → Int32) : va_W := [(a_p1, oB 8 [.ref a_p1_bits, .ref a_p1_trade, .int p1_in, .int p1_fresh, .int p1_tradeSought]), (a_t, oB 9 [.ref a_t_sets, .ref a_t_figures, .ref a_t_sums, .int t_carrying, .int t_count]), (a_p1_bits, aI cI 32 p1_bits_r), (a_p1_trade, aI cI 4 p1_trade_r), (a_t_figures, aI cI 1024 t_figures_r), (a_t_sets, aI cI 1024 t_sets_r), (a_t_sums, aI cI 1846 t_sums_r)]
set_option maxRecDepth 100000 in
theorem in_X10_findPair_X10 : ∀ w ∈ wsX100, w ∈ wsX10_findPair := by decide +kernel
set_option maxHeartbeats 4000000 in
set_option maxRecDepth 100000 in
theorem w_X10_findPair_29 {p : Program} {l : Launch} {e : Env} {s : State} {m : MethodId} {args : Array Value} {below : List Frame} {meth : Method} {c : Code} {D : va_G} {cI cZ cR : ClassId} {A : Nat → Prop} {a_p1 a_p1_bits a_p1_trade a_t a_t_sets a_t_figures a_t_sums : Nat} {p1_in : Int32} {p1_fresh : Int32} {p1_tradeSought : Int32} {t_carrying : Int32} {t_count : Int32} {p1_bits_r : Nat → Int32} {t_figures_r : Nat → Int32} {t_sets_r : Nat → Int32} {t_sums_r : Nat → Int32} {rec2 : Int32 → (Nat → Int32) → Option ((Nat → Int32))} {out : (Nat → Int32)} (X : cx p s m args meth c cX10_findPair 6 none RX10 wsX10_findPair) (hK : va_K D vwCl (ty3 cI cZ cR) s) (hA : ∀ q, s.heap.size ≤ q → A q) (hrec2 : ∀ (x2 : Int32) (p1_trade_r : Nat → Int32), rec2 x2 p1_trade_r = some out → ∀ (H : Heap) (locs : List Loc), va_P D vwCl (wd_X10_findPair cI cZ cR a_p1 a_p1_bits a_p1_trade a_t a_t_sets a_t_figures a_t_sums p1_in p1_fresh p1_tradeSought t_carrying t_count p1_bits_r p1_trade_r t_figures_r t_sets_r t_sums_r) H → va_D A (wd_X10_findPair cI cZ cR a_p1 a_p1_bits a_p1_trade a_t a_t_sets a_t_figures a_t_sums p1_in p1_fresh p1_tradeSought t_carrying t_count p1_bits_r p1_trade_r t_figures_r t_sets_r t_sums_r) → va_S A s.heap H locs → ∀ (ls : Array Slot), lv_has ls 6 [(0, .ref a_t), (1, .ref a_p1), (2, .int x2)] → W p l e (headSpec wsX10_findPair ({ frames := 3, cells := 0, slots := 0, locals := 70 } : Room)).room s m args below meth c H locs 0 0 (MQ below (qv D cI cZ cR A (wd_X10_findPair cI cZ cR a_p1 a_p1_bits a_p1_trade a_t a_t_sets a_t_figures a_t_sums p1_in p1_fresh p1_tradeSought t_carrying t_count p1_bits_r out t_figures_r t_sets_r t_sums_r)) args s 0 0 A) (F0 m 2 ls [])) : ∀ (n : Nat) (x2 : Int32) (x3 : Int32) (x4 : Int32) (p1_trade_r : Nat → Int32), F_X10_findPair_29 p1_bits_r t_carrying t_count t_figures_r t_sets_r t_sums_r rec2 n x2 x3 x4 p1_trade_r = some out → ∀ (H : Heap) (locs : List Loc), va_P D vwCl (wd_X10_findPair cI cZ cR a_p1 a_p1_bits a_p1_trade a_t a_t_sets a_t_figures a_t_sums p1_in p1_fresh p1_tradeSought t_carrying t_count p1_bits_r p1_trade_r t_figures_r t_sets_r t_sums_r) H → va_D A (wd_X10_findPair cI cZ cR a_p1 a_p1_bits a_p1_trade a_t a_t_sets a_t_figures a_t_sums p1_in p1_fresh p1_tradeSought t_carrying t_count p1_bits_r p1_trade_r t_figures_r t_sets_r t_sums_r) → va_S A s.heap H locs → ∀ (ls : Array Slot), lv_has ls 6 [(0, .ref a_t), (1, .ref a_p1), (2, .int x2), (3, .int x3), (4, .int x4)] → W p l e (headSpec wsX10_findPair ({ frames := 3, cells := 0, slots := 0, locals := 70 } : Room)).room s m args below meth c H locs 0 0 (MQ below (qv D cI cZ cR A (wd_X10_findPair cI cZ cR a_p1 a_p1_bits a_p1_trade a_t a_t_sets a_t_figures a_t_sums p1_in p1_fresh p1_tradeSought t_carrying t_count p1_bits_r out t_figures_r t_sets_r t_sums_r)) args s 0 0 A) (F0 m 29 ls []) := by
  obtain ⟨hx, hb, hml, hr, hown, hts, hlocks, hN⟩ := id X
  intro n
  induction n with
  | zero =>
    intro x2 x3 x4 p1_trade_r hf
    cases (show (none : Option ((Nat → Int32))) = some out from hf)
  | succ n ih =>
    intro x2 x3 x4 p1_trade_r hf H locs hP hD hS ls hl
    rw [F_X10_findPair_29] at hf
    refine lv_iload hx hb dX10_findPair_29 (lv_at hl 4 rfl) ?_
    refine lv_aload_n hx hb dX10_findPair_31 rfl (lv_at hl 0 rfl) ?_
    refine va_get (D := D) (ci := 9) (v := .int t_carrying) (C := RX10) (T := TX10) (N := 5) hx hb hts in_X10_findPair_X10 hown hK hP 1 rfl rfl 3 (by decide) (hts (.fieldLink RX10 44 "DivisionHall$Trader" "carrying" "I") (by decide +kernel)) (fun _ h9 => h9) rfl dX10_findPair_32 ?_
    refine lv_icmp_ge (tgt := 112) hx hb dX10_findPair_35 (by decide) (fun c4 => ?_) (fun c4 => ?_)
    · have hf := ipos c4 hf
      refine lv_iinc (v := (x2 + (1 : Int32))) (lv' := [(2, .int (x2 + (1 : Int32))), (0, .ref a_t), (1, .ref a_p1), (3, .int x3), (4, .int x4)]) hx hb dX10_findPair_112 hl (k := 2) rfl rfl (by decide) rfl (fun ls hl => ?_)
      refine lv_goto (tgt := 2) hx hb dX10_findPair_115 (by decide) ?_
      exact hrec2 (x2 + (1 : Int32)) p1_trade_r hf _ _ hP hD hS _ (lv_sub hl [1, 2, 0] rfl)
    · have hf := ineg c4 hf
      refine lv_iload hx hb dX10_findPair_38 (lv_at hl 4 rfl) ?_
      refine lv_sipush (v := (1024 : Int32)) hx hb dX10_findPair_40 (by decide) ?_
      refine lv_icmp_ge (tgt := 112) hx hb dX10_findPair_43 (by decide) (fun c5 => ?_) (fun c5 => ?_)
      · have hf := ipos c5 hf
        refine lv_iinc (v := (x2 + (1 : Int32))) (lv' := [(2, .int (x2 + (1 : Int32))), (0, .ref a_t), (1, .ref a_p1), (3, .int x3), (4, .int x4)]) hx hb dX10_findPair_112 hl (k := 2) rfl rfl (by decide) rfl (fun ls hl => ?_)
        refine lv_goto (tgt := 2) hx hb dX10_findPair_115 (by decide) ?_
        exact hrec2 (x2 + (1 : Int32)) p1_trade_r hf _ _ hP hD hS _ (lv_sub hl [1, 2, 0] rfl)
      · have hf := ineg c5 hf
        refine lv_iload_n hx hb dX10_findPair_46 rfl (lv_at hl 3 rfl) ?_
        refine lv_aload_n hx hb dX10_findPair_47 rfl (lv_at hl 0 rfl) ?_
        refine va_get (D := D) (ci := 9) (v := .ref a_t_figures) (C := RX10) (T := TX10) (N := 5) hx hb hts in_X10_findPair_X10 hown hK hP 1 rfl rfl 1 (by decide) (hts (.fieldLink RX10 15 "DivisionHall$Trader" "figures" "[I") (by decide +kernel)) (fun _ h9 => h9) rfl dX10_findPair_48 ?_
        refine lv_iload hx hb dX10_findPair_51 (lv_at hl 4 rfl) ?_
        obtain ⟨hi6, hf⟩ := gin_s hf
        refine va_iald hx hb hK hP 4 0 rfl rfl hi6 dX10_findPair_53 ?_
        refine lv_iadd hx hb dX10_findPair_54 ?_
        refine lv_istore (lv' := [(5, .int (x3 + (t_figures_r (x4).toNatClampNeg))), (0, .ref a_t), (1, .ref a_p1), (2, .int x2), (3, .int x3), (4, .int x4)]) hx hb dX10_findPair_55 hl (by decide) rfl (fun ls hl => ?_)
        refine lv_iload hx hb dX10_findPair_57 (lv_at hl 0 rfl) ?_
        refine lv_ldc (v := (59049 : Int32)) hx hb hown (hts (.constant RX10 72 (59049 : Int32)) (by decide +kernel)) dX10_findPair_59 ?_
        obtain ⟨r7, hr8, hf⟩ := bnd hf
        refine wcalli (D := D) (cI := cI) (cZ := cZ) (cR := cR) (wc := (wd_X11_inside cI cZ cR)) (w' := (wd_X11_inside cI cZ cR)) [] hP hD hS hA rfl rfl rfl (rnSN (As := [.int (x3 + (t_figures_r (x4).toNatClampNeg)), .int (59049 : Int32)]) X [] hK hP hD rfl rfl (c_X11_inside l D cI cZ cR hr8) ⟨va_cnB (host := "DivisionHall") 2 hts ggX10_findPair_X11_inside rfl rfl rfl (hN.2.1 ("DivisionHall$Trader", 65, yX11_inside, "DivisionHall") (by decide +kernel)) (hts (.initialized RX11) (by decide +kernel)) (by decide +kernel) ⟨Nat.le_of_ble_eq_true rfl, Nat.le_of_ble_eq_true rfl⟩, hts (.static yX11_inside) (by decide +kernel), trivial⟩ rfl hl.1 rfl (Nat.le_of_ble_eq_true rfl) dX10_findPair_61) (fun H locs hP hD hS => ?_)
        have hP : va_P D vwCl (wd_X10_findPair cI cZ cR a_p1 a_p1_bits a_p1_trade a_t a_t_sets a_t_figures a_t_sums p1_in p1_fresh p1_tradeSought t_carrying t_count p1_bits_r p1_trade_r t_figures_r t_sets_r t_sums_r) H := hP
        have hD : va_D A (wd_X10_findPair cI cZ cR a_p1 a_p1_bits a_p1_trade a_t a_t_sets a_t_figures a_t_sums p1_in p1_fresh p1_tradeSought t_carrying t_count p1_bits_r p1_trade_r t_figures_r t_sets_r t_sums_r) := hD
        refine lv_if_eq (tgt := 106) hx hb dX10_findPair_64 (by decide) (fun c9 => ?_) (fun c9 => ?_)
        · have hf := ipos c9 hf
          refine lv_iinc (v := (x4 + (1 : Int32))) (lv' := [(4, .int (x4 + (1 : Int32))), (5, .int (x3 + (t_figures_r (x4).toNatClampNeg))), (0, .ref a_t), (1, .ref a_p1), (2, .int x2), (3, .int x3)]) hx hb dX10_findPair_106 hl (k := 5) rfl rfl (by decide) rfl (fun ls hl => ?_)
          refine lv_goto (tgt := 29) hx hb dX10_findPair_109 (by decide) ?_
          exact ih x2 x3 (x4 + (1 : Int32)) p1_trade_r hf _ _ hP hD hS _ (lv_sub hl [2, 3, 4, 5, 0] rfl)
        · have hf := ineg c9 hf
          refine lv_aload_n hx hb dX10_findPair_67 rfl (lv_at hl 1 rfl) ?_
          refine va_get (D := D) (ci := 9) (v := .ref a_t_sums) (C := RX10) (T := TX10) (N := 5) hx hb hts in_X10_findPair_X10 hown hK hP 1 rfl rfl 2 (by decide) (hts (.fieldLink RX10 18 "DivisionHall$Trader" "sums" "[I") (by decide +kernel)) (fun _ h9 => h9) rfl dX10_findPair_68 ?_
          refine lv_iload hx hb dX10_findPair_71 (lv_at hl 0 rfl) ?_
          refine lv_iconst (v := (5 : Int32)) hx hb dX10_findPair_73 (by decide) ?_
          refine lv_ishr hx hb dX10_findPair_74 ?_
          obtain ⟨hi10, hf⟩ := gin_s hf
          refine va_iald hx hb hK hP 6 0 rfl rfl hi10 dX10_findPair_75 ?_
          refine lv_iload hx hb dX10_findPair_76 (lv_at hl 0 rfl) ?_
          refine lv_bipush (v := (31 : Int32)) hx hb dX10_findPair_78 (by decide) ?_
          refine lv_iand hx hb dX10_findPair_80 ?_
          obtain ⟨r11, hr12, hf⟩ := bnd hf
          refine wcalli (D := D) (cI := cI) (cZ := cZ) (cR := cR) (wc := (wd_X11_has cI cZ cR)) (w' := (wd_X11_has cI cZ cR)) [] hP hD hS hA rfl rfl rfl (rnSN (As := [.int (t_sums_r (((x3 + (t_figures_r (x4).toNatClampNeg)) >>> ((5 : Int32) &&& 31))).toNatClampNeg), .int ((x3 + (t_figures_r (x4).toNatClampNeg)) &&& (31 : Int32))]) X [] hK hP hD rfl rfl (c_X11_has l D cI cZ cR hr12) ⟨va_cnB (host := "DivisionHall") 2 hts ggX10_findPair_X11_has rfl rfl rfl (hN.2.1 ("DivisionHall$Trader", 73, yX11_has, "DivisionHall") (by decide +kernel)) (hts (.initialized RX11) (by decide +kernel)) (by decide +kernel) ⟨Nat.le_of_ble_eq_true rfl, Nat.le_of_ble_eq_true rfl⟩, hts (.static yX11_has) (by decide +kernel), trivial⟩ rfl hl.1 rfl (Nat.le_of_ble_eq_true rfl) dX10_findPair_81) (fun H locs hP hD hS => ?_)
          have hP : va_P D vwCl (wd_X10_findPair cI cZ cR a_p1 a_p1_bits a_p1_trade a_t a_t_sets a_t_figures a_t_sums p1_in p1_fresh p1_tradeSought t_carrying t_count p1_bits_r p1_trade_r t_figures_r t_sets_r t_sums_r) H := hP
          have hD : va_D A (wd_X10_findPair cI cZ cR a_p1 a_p1_bits a_p1_trade a_t a_t_sets a_t_figures a_t_sums p1_in p1_fresh p1_tradeSought t_carrying t_count p1_bits_r p1_trade_r t_figures_r t_sets_r t_sums_r) := hD
          refine lv_if_eq (tgt := 106) hx hb dX10_findPair_84 (by decide) (fun c13 => ?_) (fun c13 => ?_)
          · have hf := ipos c13 hf
            refine lv_iinc (v := (x4 + (1 : Int32))) (lv' := [(4, .int (x4 + (1 : Int32))), (5, .int (x3 + (t_figures_r (x4).toNatClampNeg))), (0, .ref a_t), (1, .ref a_p1), (2, .int x2), (3, .int x3)]) hx hb dX10_findPair_106 hl (k := 5) rfl rfl (by decide) rfl (fun ls hl => ?_)
            refine lv_goto (tgt := 29) hx hb dX10_findPair_109 (by decide) ?_
            exact ih x2 x3 (x4 + (1 : Int32)) p1_trade_r hf _ _ hP hD hS _ (lv_sub hl [2, 3, 4, 5, 0] rfl)
          · have hf := ineg c13 hf
            refine lv_aload_n hx hb dX10_findPair_87 rfl (lv_at hl 1 rfl) ?_
            refine lv_aload_n hx hb dX10_findPair_88 rfl (lv_at hl 2 rfl) ?_
            refine lv_aload_n hx hb dX10_findPair_89 rfl (lv_at hl 1 rfl) ?_
            refine va_get (D := D) (ci := 9) (v := .ref a_t_sets) (C := RX10) (T := TX10) (N := 5) hx hb hts in_X10_findPair_X10 hown hK hP 1 rfl rfl 0 (by decide) (hts (.fieldLink RX10 9 "DivisionHall$Trader" "sets" "[I") (by decide +kernel)) (fun _ h9 => h9) rfl dX10_findPair_90 ?_
            refine lv_iload_n hx hb dX10_findPair_93 rfl (lv_at hl 3 rfl) ?_
            obtain ⟨hi14, hf⟩ := gin_s hf
            refine va_iald hx hb hK hP 5 0 rfl rfl hi14 dX10_findPair_94 ?_
            refine lv_aload_n hx hb dX10_findPair_95 rfl (lv_at hl 1 rfl) ?_
            refine va_get (D := D) (ci := 9) (v := .ref a_t_sets) (C := RX10) (T := TX10) (N := 5) hx hb hts in_X10_findPair_X10 hown hK hP 1 rfl rfl 0 (by decide) (hts (.fieldLink RX10 9 "DivisionHall$Trader" "sets" "[I") (by decide +kernel)) (fun _ h9 => h9) rfl dX10_findPair_96 ?_
            refine lv_iload hx hb dX10_findPair_99 (lv_at hl 5 rfl) ?_
            obtain ⟨hi15, hf⟩ := gin_s hf
            refine va_iald hx hb hK hP 5 0 rfl rfl hi15 dX10_findPair_101 ?_
            obtain ⟨r16, hr17, hf⟩ := bnd hf
            refine wcallv (D := D) (cI := cI) (cZ := cZ) (cR := cR) (wc := (wd_X10_findOthers cI cZ cR a_p1 a_p1_bits a_p1_trade a_t a_t_sets a_t_figures a_t_sums p1_in p1_fresh p1_tradeSought t_carrying t_count p1_bits_r p1_trade_r t_sets_r)) (w' := (wd_X10_findOthers cI cZ cR a_p1 a_p1_bits a_p1_trade a_t a_t_sets a_t_figures a_t_sums p1_in p1_fresh p1_tradeSought t_carrying t_count p1_bits_r r16 t_sets_r)) [0, 1, 2, 3, 5] hP hD hS hA rfl rfl rfl (rnV (As := [.ref a_p1, .int (t_sets_r (x2).toNatClampNeg), .int (t_sets_r (x4).toNatClampNeg)]) (ci := 9) (q0 := 1) X [0, 1, 2, 3, 5] hK hP hD rfl rfl rfl rfl (c_X10_findOthers l D cI cZ cR hr17) (cwV 3 hts gX10_findPair_X10_findOthers rfl rfl rfl (by decide +kernel) ⟨Nat.le_of_ble_eq_true rfl, Nat.le_of_ble_eq_true rfl⟩) rfl hl.1 rfl (Nat.le_of_ble_eq_true rfl) dX10_findPair_102) (fun H locs hP hD hS => ?_)
            have hP : va_P D vwCl (wd_X10_findPair cI cZ cR a_p1 a_p1_bits a_p1_trade a_t a_t_sets a_t_figures a_t_sums p1_in p1_fresh p1_tradeSought t_carrying t_count p1_bits_r r16 t_figures_r t_sets_r t_sums_r) H := hP
            have hD : va_D A (wd_X10_findPair cI cZ cR a_p1 a_p1_bits a_p1_trade a_t a_t_sets a_t_figures a_t_sums p1_in p1_fresh p1_tradeSought t_carrying t_count p1_bits_r r16 t_figures_r t_sets_r t_sums_r) := hD
            cases hf
            exact retv X hK hP hD hS dX10_findPair_105
set_option maxHeartbeats 4000000 in
set_option maxRecDepth 100000 in
theorem w_X10_findPair_2 {p : Program} {l : Launch} {e : Env} {s : State} {m : MethodId} {args : Array Value} {below : List Frame} {meth : Method} {c : Code} {D : va_G} {cI cZ cR : ClassId} {A : Nat → Prop} {a_p1 a_p1_bits a_p1_trade a_t a_t_sets a_t_figures a_t_sums : Nat} {p1_in : Int32} {p1_fresh : Int32} {p1_tradeSought : Int32} {t_carrying : Int32} {t_count : Int32} {p1_bits_r : Nat → Int32} {t_figures_r : Nat → Int32} {t_sets_r : Nat → Int32} {t_sums_r : Nat → Int32} {out : (Nat → Int32)} (X : cx p s m args meth c cX10_findPair 6 none RX10 wsX10_findPair) (hK : va_K D vwCl (ty3 cI cZ cR) s) (hA : ∀ q, s.heap.size ≤ q → A q) : ∀ (n : Nat) (x2 : Int32) (p1_trade_r : Nat → Int32), F_X10_findPair_2 p1_bits_r t_carrying t_count t_figures_r t_sets_r t_sums_r n x2 p1_trade_r = some out → ∀ (H : Heap) (locs : List Loc), va_P D vwCl (wd_X10_findPair cI cZ cR a_p1 a_p1_bits a_p1_trade a_t a_t_sets a_t_figures a_t_sums p1_in p1_fresh p1_tradeSought t_carrying t_count p1_bits_r p1_trade_r t_figures_r t_sets_r t_sums_r) H → va_D A (wd_X10_findPair cI cZ cR a_p1 a_p1_bits a_p1_trade a_t a_t_sets a_t_figures a_t_sums p1_in p1_fresh p1_tradeSought t_carrying t_count p1_bits_r p1_trade_r t_figures_r t_sets_r t_sums_r) → va_S A s.heap H locs → ∀ (ls : Array Slot), lv_has ls 6 [(0, .ref a_t), (1, .ref a_p1), (2, .int x2)] → W p l e (headSpec wsX10_findPair ({ frames := 3, cells := 0, slots := 0, locals := 70 } : Room)).room s m args below meth c H locs 0 0 (MQ below (qv D cI cZ cR A (wd_X10_findPair cI cZ cR a_p1 a_p1_bits a_p1_trade a_t a_t_sets a_t_figures a_t_sums p1_in p1_fresh p1_tradeSought t_carrying t_count p1_bits_r out t_figures_r t_sets_r t_sums_r)) args s 0 0 A) (F0 m 2 ls []) := by
  obtain ⟨hx, hb, hml, hr, hown, hts, hlocks, hN⟩ := id X
  intro n
  induction n with
  | zero =>
    intro x2 p1_trade_r hf
    cases (show (none : Option ((Nat → Int32))) = some out from hf)
  | succ n ih =>
    intro x2 p1_trade_r hf H locs hP hD hS ls hl
    rw [F_X10_findPair_2] at hf
    refine lv_iload_n hx hb dX10_findPair_2 rfl (lv_at hl 2 rfl) ?_
    refine lv_aload_n hx hb dX10_findPair_3 rfl (lv_at hl 0 rfl) ?_
    refine va_get (D := D) (ci := 9) (v := .int t_carrying) (C := RX10) (T := TX10) (N := 5) hx hb hts in_X10_findPair_X10 hown hK hP 1 rfl rfl 3 (by decide) (hts (.fieldLink RX10 44 "DivisionHall$Trader" "carrying" "I") (by decide +kernel)) (fun _ h9 => h9) rfl dX10_findPair_4 ?_
    refine lv_icmp_ge (tgt := 118) hx hb dX10_findPair_7 (by decide) (fun c1 => ?_) (fun c1 => ?_)
    · have hf := ipos c1 hf
      cases hf
      exact retv X hK hP hD hS dX10_findPair_118
    · have hf := ineg c1 hf
      refine lv_iload_n hx hb dX10_findPair_10 rfl (lv_at hl 2 rfl) ?_
      refine lv_sipush (v := (1024 : Int32)) hx hb dX10_findPair_11 (by decide) ?_
      refine lv_icmp_ge (tgt := 118) hx hb dX10_findPair_14 (by decide) (fun c2 => ?_) (fun c2 => ?_)
      · have hf := ipos c2 hf
        cases hf
        exact retv X hK hP hD hS dX10_findPair_118
      · have hf := ineg c2 hf
        refine lv_aload_n hx hb dX10_findPair_17 rfl (lv_at hl 0 rfl) ?_
        refine va_get (D := D) (ci := 9) (v := .ref a_t_figures) (C := RX10) (T := TX10) (N := 5) hx hb hts in_X10_findPair_X10 hown hK hP 1 rfl rfl 1 (by decide) (hts (.fieldLink RX10 15 "DivisionHall$Trader" "figures" "[I") (by decide +kernel)) (fun _ h9 => h9) rfl dX10_findPair_18 ?_
        refine lv_iload_n hx hb dX10_findPair_21 rfl (lv_at hl 2 rfl) ?_
        obtain ⟨hi3, hf⟩ := gin_s hf
        refine va_iald hx hb hK hP 4 0 rfl rfl hi3 dX10_findPair_22 ?_
        refine lv_istore_n (lv' := [(3, .int (t_figures_r (x2).toNatClampNeg)), (0, .ref a_t), (1, .ref a_p1), (2, .int x2)]) hx hb dX10_findPair_23 rfl hl (by decide) rfl (fun ls hl => ?_)
        refine lv_iload_n hx hb dX10_findPair_24 rfl (lv_at hl 3 rfl) ?_
        refine lv_iconst (v := (1 : Int32)) hx hb dX10_findPair_25 (by decide) ?_
        refine lv_iadd hx hb dX10_findPair_26 ?_
        refine lv_istore (lv' := [(4, .int (x2 + (1 : Int32))), (3, .int (t_figures_r (x2).toNatClampNeg)), (0, .ref a_t), (1, .ref a_p1), (2, .int x2)]) hx hb dX10_findPair_27 hl (by decide) rfl (fun ls hl => ?_)
        exact w_X10_findPair_29 X hK hA ih _ x2 (t_figures_r (x2).toNatClampNeg) (x2 + (1 : Int32)) p1_trade_r hf _ _ hP hD hS _ (lv_sub hl [2, 3, 4, 1, 0] rfl)
set_option maxHeartbeats 4000000 in
set_option maxRecDepth 100000 in
theorem c_X10_findPair (l : Launch) (D : va_G) (cI cZ cR : ClassId) {a_p1 a_p1_bits a_p1_trade a_t a_t_sets a_t_figures a_t_sums : Nat} {p1_in : Int32} {p1_fresh : Int32} {p1_tradeSought : Int32} {t_carrying : Int32} {t_count : Int32} {p1_bits_r : Nat → Int32} {p1_trade_r : Nat → Int32} {t_figures_r : Nat → Int32} {t_sets_r : Nat → Int32} {t_sums_r : Nat → Int32} {sz : Nat} {out : (Nat → Int32)} (hf : F_X10_findPair p1_bits_r p1_trade_r t_carrying t_count t_figures_r t_sets_r t_sums_r = some out) : CV l yX10_findPair wsX10_findPair ({ frames := 3, cells := 0, slots := 0, locals := 70 } : Room) D cI cZ cR [.ref a_t, .ref a_p1] (wd_X10_findPair cI cZ cR a_p1 a_p1_bits a_p1_trade a_t a_t_sets a_t_figures a_t_sums p1_in p1_fresh p1_tradeSought t_carrying t_count p1_bits_r p1_trade_r t_figures_r t_sets_r t_sums_r) sz (wd_X10_findPair cI cZ cR a_p1 a_p1_bits a_p1_trade a_t a_t_sets a_t_figures a_t_sums p1_in p1_fresh p1_tradeSought t_carrying t_count p1_bits_r out t_figures_r t_sets_r t_sums_r) := by
  refine met_of (Qf := fun A => qv D cI cZ cR A (wd_X10_findPair cI cZ cR a_p1 a_p1_bits a_p1_trade a_t a_t_sets a_t_figures a_t_sums p1_in p1_fresh p1_tradeSought t_carrying t_count p1_bits_r out t_figures_r t_sets_r t_sums_r)) RX10 (by decide +kernel) rfl rfl (Nat.le_of_ble_eq_true rfl) ?_
  intro p e s m below meth c A X hK hA hP hD hS ls hl
  have hl : lv_has ls 6 [(0, .ref a_t), (1, .ref a_p1)] := hl
  obtain ⟨hx, hb, hml, hr, hown, hts, hlocks, hN⟩ := id X
  unfold F_X10_findPair at hf
  refine lv_iconst (v := (0 : Int32)) hx hb dX10_findPair_0 (by decide) ?_
  refine lv_istore_n (lv' := [(2, .int (0 : Int32)), (0, .ref a_t), (1, .ref a_p1)]) hx hb dX10_findPair_1 rfl hl (by decide) rfl (fun ls hl => ?_)
  exact w_X10_findPair_2 X hK hA _ (0 : Int32) p1_trade_r hf _ _ hP hD hS _ (lv_sub hl [1, 2, 0] rfl)

abbrev wd_X10_figureOf (cI cZ cR : ClassId) : va_W := []
set_option maxHeartbeats 4000000 in
set_option maxRecDepth 100000 in
theorem w_X10_figureOf_5 {p : Program} {l : Launch} {e : Env} {s : State} {m : MethodId} {args : Array Value} {below : List Frame} {meth : Method} {c : Code} {D : va_G} {cI cZ cR : ClassId} {A : Nat → Prop} {x0 : Int32} {out : Int32} (X : cx p s m args meth c cX10_figureOf 3 (some .int) RX10 wsX10_figureOf) (hK : va_K D vwCl (ty3 cI cZ cR) s) (hA : ∀ q, s.heap.size ≤ q → A q) : ∀ (n : Nat) (x1 : Int32) (x2 : Int32), F_X10_figureOf_5 x0 n x1 x2 = some out → ∀ (H : Heap) (locs : List Loc), va_P D vwCl (wd_X10_figureOf cI cZ cR) H → va_D A (wd_X10_figureOf cI cZ cR) → va_S A s.heap H locs → ∀ (ls : Array Slot), lv_has ls 3 [(0, .int x0), (1, .int x1), (2, .int x2)] → W p l e (headSpec wsX10_figureOf ({ frames := 0, cells := 0, slots := 0, locals := 0 } : Room)).room s m args below meth c H locs 0 0 (MQ below (qi D cI cZ cR A (out) (wd_X10_figureOf cI cZ cR)) args s 0 0 A) (F0 m 5 ls []) := by
  obtain ⟨hx, hb, hml, hr, hown, hts, hlocks, hN⟩ := id X
  intro n
  induction n with
  | zero =>
    intro x1 x2 hf
    cases (show (none : Option (Int32)) = some out from hf)
  | succ n ih =>
    intro x1 x2 hf H locs hP hD hS ls hl
    rw [F_X10_figureOf_5] at hf
    refine lv_iload_n hx hb dX10_figureOf_5 rfl (lv_at hl 2 rfl) ?_
    refine lv_if_lt (tgt := 25) hx hb dX10_figureOf_6 (by decide) (fun c1 => ?_) (fun c1 => ?_)
    · have hf := ipos c1 hf
      refine lv_iload_n hx hb dX10_figureOf_25 rfl (lv_at hl 1 rfl) ?_
      cases hf
      exact reti X hK hP hD hS dX10_figureOf_26
    · have hf := ineg c1 hf
      refine lv_iload_n hx hb dX10_figureOf_9 rfl (lv_at hl 1 rfl) ?_
      refine lv_iconst (v := (3 : Int32)) hx hb dX10_figureOf_10 (by decide) ?_
      refine lv_imul hx hb dX10_figureOf_11 ?_
      refine lv_iload_n hx hb dX10_figureOf_12 rfl (lv_at hl 0 rfl) ?_
      refine lv_iload_n hx hb dX10_figureOf_13 rfl (lv_at hl 2 rfl) ?_
      refine lv_ishr hx hb dX10_figureOf_14 ?_
      refine lv_iconst (v := (1 : Int32)) hx hb dX10_figureOf_15 (by decide) ?_
      refine lv_iand hx hb dX10_figureOf_16 ?_
      refine lv_iadd hx hb dX10_figureOf_17 ?_
      refine lv_istore_n (lv' := [(1, .int ((x1 * (3 : Int32)) + ((x0 >>> (x2 &&& 31)) &&& (1 : Int32)))), (0, .int x0), (2, .int x2)]) hx hb dX10_figureOf_18 rfl hl (by decide) rfl (fun ls hl => ?_)
      refine lv_iinc (v := (x2 + (-1 : Int32))) (lv' := [(2, .int (x2 + (-1 : Int32))), (1, .int ((x1 * (3 : Int32)) + ((x0 >>> (x2 &&& 31)) &&& (1 : Int32)))), (0, .int x0)]) hx hb dX10_figureOf_19 hl (k := 2) rfl rfl (by decide) rfl (fun ls hl => ?_)
      refine lv_goto (tgt := 5) hx hb dX10_figureOf_22 (by decide) ?_
      exact ih ((x1 * (3 : Int32)) + ((x0 >>> (x2 &&& 31)) &&& (1 : Int32))) (x2 + (-1 : Int32)) hf _ _ hP hD hS _ (lv_sub hl [2, 1, 0] rfl)
set_option maxHeartbeats 4000000 in
set_option maxRecDepth 100000 in
theorem c_X10_figureOf (l : Launch) (D : va_G) (cI cZ cR : ClassId) {x0 : Int32} {sz : Nat} {out : Int32} (hf : F_X10_figureOf x0 = some out) : CI l yX10_figureOf wsX10_figureOf ({ frames := 0, cells := 0, slots := 0, locals := 0 } : Room) D cI cZ cR [.int x0] (wd_X10_figureOf cI cZ cR) sz (out) (wd_X10_figureOf cI cZ cR) := by
  refine met_of (Qf := fun A => qi D cI cZ cR A (out) (wd_X10_figureOf cI cZ cR)) RX10 (by decide +kernel) rfl rfl (Nat.le_of_ble_eq_true rfl) ?_
  intro p e s m below meth c A X hK hA hP hD hS ls hl
  have hl : lv_has ls 3 [(0, .int x0)] := hl
  obtain ⟨hx, hb, hml, hr, hown, hts, hlocks, hN⟩ := id X
  unfold F_X10_figureOf at hf
  refine lv_iconst (v := (0 : Int32)) hx hb dX10_figureOf_0 (by decide) ?_
  refine lv_istore_n (lv' := [(1, .int (0 : Int32)), (0, .int x0)]) hx hb dX10_figureOf_1 rfl hl (by decide) rfl (fun ls hl => ?_)
  refine lv_bipush (v := (9 : Int32)) hx hb dX10_figureOf_2 (by decide) ?_
  refine lv_istore_n (lv' := [(2, .int (9 : Int32)), (1, .int (0 : Int32)), (0, .int x0)]) hx hb dX10_figureOf_4 rfl hl (by decide) rfl (fun ls hl => ?_)
  exact w_X10_figureOf_5 X hK hA _ (0 : Int32) (9 : Int32) hf _ _ hP hD hS _ (lv_sub hl [2, 1, 0] rfl)

abbrev wd_X10_list (cI cZ cR : ClassId) (a_p1 a_p1_bits a_p1_trade a_t a_t_sets a_t_figures a_t_sums : Nat) (p1_in p1_fresh p1_tradeSought t_carrying t_count : Int32) (p1_bits_r : Nat → Int32) (t_figures_r : Nat → Int32) (t_sets_r : Nat → Int32) : va_W := [(a_p1, oB 8 [.ref a_p1_bits, .ref a_p1_trade, .int p1_in, .int p1_fresh, .int p1_tradeSought]), (a_t, oB 9 [.ref a_t_sets, .ref a_t_figures, .ref a_t_sums, .int t_carrying, .int t_count]), (a_p1_bits, aI cI 32 p1_bits_r), (a_t_figures, aI cI 1024 t_figures_r), (a_t_sets, aI cI 1024 t_sets_r)]
set_option maxRecDepth 100000 in
theorem in_X10_list_X10 : ∀ w ∈ wsX100, w ∈ wsX10_list := by decide +kernel
set_option maxRecDepth 100000 in
theorem in_X10_list_X9 : ∀ w ∈ wsX90, w ∈ wsX10_list := by decide +kernel
set_option maxHeartbeats 4000000 in
set_option maxRecDepth 100000 in
theorem w_X10_list_2 {p : Program} {l : Launch} {e : Env} {s : State} {m : MethodId} {args : Array Value} {below : List Frame} {meth : Method} {c : Code} {D : va_G} {cI cZ cR : ClassId} {A : Nat → Prop} {a_p1 a_p1_bits a_p1_trade a_t a_t_sets a_t_figures a_t_sums : Nat} {p1_in : Int32} {p1_fresh : Int32} {p1_tradeSought : Int32} {t_carrying : Int32} {p1_bits_r : Nat → Int32} {x2 : Int32} {out : Int32 × (Nat → Int32) × (Nat → Int32)} (X : cx p s m args meth c cX10_list 4 none RX10 wsX10_list) (hK : va_K D vwCl (ty3 cI cZ cR) s) (hA : ∀ q, s.heap.size ≤ q → A q) : ∀ (n : Nat) (x3 : Int32) (t_count : Int32) (t_figures_r : Nat → Int32) (t_sets_r : Nat → Int32), F_X10_list_2 x2 p1_in p1_bits_r n x3 t_count t_figures_r t_sets_r = some out → ∀ (H : Heap) (locs : List Loc), va_P D vwCl (wd_X10_list cI cZ cR a_p1 a_p1_bits a_p1_trade a_t a_t_sets a_t_figures a_t_sums p1_in p1_fresh p1_tradeSought t_carrying t_count p1_bits_r t_figures_r t_sets_r) H → va_D A (wd_X10_list cI cZ cR a_p1 a_p1_bits a_p1_trade a_t a_t_sets a_t_figures a_t_sums p1_in p1_fresh p1_tradeSought t_carrying t_count p1_bits_r t_figures_r t_sets_r) → va_S A s.heap H locs → ∀ (ls : Array Slot), lv_has ls 4 [(0, .ref a_t), (1, .ref a_p1), (2, .int x2), (3, .int x3)] → W p l e (headSpec wsX10_list ({ frames := 2, cells := 0, slots := 0, locals := 42 } : Room)).room s m args below meth c H locs 0 0 (MQ below (qv D cI cZ cR A (wd_X10_list cI cZ cR a_p1 a_p1_bits a_p1_trade a_t a_t_sets a_t_figures a_t_sums p1_in p1_fresh p1_tradeSought t_carrying (out.1) p1_bits_r (out.2.1) (out.2.2))) args s 0 0 A) (F0 m 2 ls []) := by
  obtain ⟨hx, hb, hml, hr, hown, hts, hlocks, hN⟩ := id X
  intro n
  induction n with
  | zero =>
    intro x3 t_count t_figures_r t_sets_r hf
    cases (show (none : Option (Int32 × (Nat → Int32) × (Nat → Int32))) = some out from hf)
  | succ n ih =>
    intro x3 t_count t_figures_r t_sets_r hf H locs hP hD hS ls hl
    rw [F_X10_list_2] at hf
    refine lv_iload_n hx hb dX10_list_2 rfl (lv_at hl 3 rfl) ?_
    refine lv_aload_n hx hb dX10_list_3 rfl (lv_at hl 1 rfl) ?_
    refine va_getN (D := D) (ci := 8) (v := .int p1_in) (C := RX9) (T := TX9) (N := 5) hx hb hts in_X10_list_X9 hown hK hP 0 rfl rfl 2 (by decide) (va_Nw.use rfl (hN.1 ("DivisionHall$Trader", 54, "DivisionHall$Table", "in", "I", "DivisionHall") (by decide +kernel))) (fun _ h9 => h9) rfl dX10_list_4 ?_
    refine lv_icmp_gt (tgt := 82) hx hb dX10_list_7 (by decide) (fun c1 => ?_) (fun c1 => ?_)
    · have hf := ipos c1 hf
      cases hf
      exact retv X hK hP hD hS dX10_list_82
    · have hf := ineg c1 hf
      refine lv_iload_n hx hb dX10_list_10 rfl (lv_at hl 3 rfl) ?_
      refine lv_aload_n hx hb dX10_list_11 rfl (lv_at hl 1 rfl) ?_
      refine va_getN (D := D) (ci := 8) (v := .int p1_in) (C := RX9) (T := TX9) (N := 5) hx hb hts in_X10_list_X9 hown hK hP 0 rfl rfl 2 (by decide) (va_Nw.use rfl (hN.1 ("DivisionHall$Trader", 54, "DivisionHall$Table", "in", "I", "DivisionHall") (by decide +kernel))) (fun _ h9 => h9) rfl dX10_list_12 ?_
      obtain ⟨r2, hr3, hf⟩ := bnd hf
      refine wcalli (D := D) (cI := cI) (cZ := cZ) (cR := cR) (wc := (wd_X11_isWithin cI cZ cR)) (w' := (wd_X11_isWithin cI cZ cR)) [] hP hD hS hA rfl rfl rfl (rnSN (As := [.int x3, .int p1_in]) X [] hK hP hD rfl rfl (c_X11_isWithin l D cI cZ cR hr3) ⟨va_cnB (host := "DivisionHall") 2 hts ggX10_list_X11_isWithin rfl rfl rfl (hN.2.1 ("DivisionHall$Trader", 57, yX11_isWithin, "DivisionHall") (by decide +kernel)) (hts (.initialized RX11) (by decide +kernel)) (by decide +kernel) ⟨Nat.le_of_ble_eq_true rfl, Nat.le_of_ble_eq_true rfl⟩, hts (.static yX11_isWithin) (by decide +kernel), trivial⟩ rfl hl.1 rfl (Nat.le_of_ble_eq_true rfl) dX10_list_15) (fun H locs hP hD hS => ?_)
      have hP : va_P D vwCl (wd_X10_list cI cZ cR a_p1 a_p1_bits a_p1_trade a_t a_t_sets a_t_figures a_t_sums p1_in p1_fresh p1_tradeSought t_carrying t_count p1_bits_r t_figures_r t_sets_r) H := hP
      have hD : va_D A (wd_X10_list cI cZ cR a_p1 a_p1_bits a_p1_trade a_t a_t_sets a_t_figures a_t_sums p1_in p1_fresh p1_tradeSought t_carrying t_count p1_bits_r t_figures_r t_sets_r) := hD
      refine lv_if_eq (tgt := 76) hx hb dX10_list_18 (by decide) (fun c4 => ?_) (fun c4 => ?_)
      · have hf := ipos c4 hf
        refine lv_iinc (v := (x3 + (1 : Int32))) (lv' := [(3, .int (x3 + (1 : Int32))), (0, .ref a_t), (1, .ref a_p1), (2, .int x2)]) hx hb dX10_list_76 hl (k := 3) rfl rfl (by decide) rfl (fun ls hl => ?_)
        refine lv_goto (tgt := 2) hx hb dX10_list_79 (by decide) ?_
        exact ih (x3 + (1 : Int32)) t_count t_figures_r t_sets_r hf _ _ hP hD hS _ (lv_sub hl [1, 2, 3, 0] rfl)
      · have hf := ineg c4 hf
        refine lv_aload_n hx hb dX10_list_21 rfl (lv_at hl 1 rfl) ?_
        refine lv_iload_n hx hb dX10_list_22 rfl (lv_at hl 3 rfl) ?_
        obtain ⟨r5, hr6, hf⟩ := bnd hf
        refine wcalli (D := D) (cI := cI) (cZ := cZ) (cR := cR) (wc := (wd_X9_at cI cZ cR a_p1 a_p1_bits a_p1_trade p1_in p1_fresh p1_tradeSought p1_bits_r)) (w' := (wd_X9_at cI cZ cR a_p1 a_p1_bits a_p1_trade p1_in p1_fresh p1_tradeSought p1_bits_r)) [0, 2] hP hD hS hA rfl rfl rfl (rnV (As := [.int x3]) (ci := 8) (q0 := 0) X [0, 2] hK hP hD rfl rfl rfl rfl (c_X9_at l D cI cZ cR hr6) (cwV 1 hts gX10_list_X9_at rfl rfl rfl (by decide +kernel) ⟨Nat.le_of_ble_eq_true rfl, Nat.le_of_ble_eq_true rfl⟩) rfl hl.1 rfl (Nat.le_of_ble_eq_true rfl) dX10_list_23) (fun H locs hP hD hS => ?_)
        have hP : va_P D vwCl (wd_X10_list cI cZ cR a_p1 a_p1_bits a_p1_trade a_t a_t_sets a_t_figures a_t_sums p1_in p1_fresh p1_tradeSought t_carrying t_count p1_bits_r t_figures_r t_sets_r) H := hP
        have hD : va_D A (wd_X10_list cI cZ cR a_p1 a_p1_bits a_p1_trade a_t a_t_sets a_t_figures a_t_sums p1_in p1_fresh p1_tradeSought t_carrying t_count p1_bits_r t_figures_r t_sets_r) := hD
        refine lv_iload_n hx hb dX10_list_26 rfl (lv_at hl 2 rfl) ?_
        refine lv_icmp_ne (tgt := 76) hx hb dX10_list_27 (by decide) (fun c7 => ?_) (fun c7 => ?_)
        · have hf := ineg c7 hf
          refine lv_iinc (v := (x3 + (1 : Int32))) (lv' := [(3, .int (x3 + (1 : Int32))), (0, .ref a_t), (1, .ref a_p1), (2, .int x2)]) hx hb dX10_list_76 hl (k := 3) rfl rfl (by decide) rfl (fun ls hl => ?_)
          refine lv_goto (tgt := 2) hx hb dX10_list_79 (by decide) ?_
          exact ih (x3 + (1 : Int32)) t_count t_figures_r t_sets_r hf _ _ hP hD hS _ (lv_sub hl [1, 2, 3, 0] rfl)
        · have hf := ipos c7 hf
          refine lv_aload_n hx hb dX10_list_30 rfl (lv_at hl 0 rfl) ?_
          refine va_get (D := D) (ci := 9) (v := .int t_count) (C := RX10) (T := TX10) (N := 5) hx hb hts in_X10_list_X10 hown hK hP 1 rfl rfl 4 (by decide) (hts (.fieldLink RX10 36 "DivisionHall$Trader" "count" "I") (by decide +kernel)) (fun _ h9 => h9) rfl dX10_list_31 ?_
          refine lv_sipush (v := (1024 : Int32)) hx hb dX10_list_34 (by decide) ?_
          obtain ⟨r8, hr9, hf⟩ := bnd hf
          refine wcalli (D := D) (cI := cI) (cZ := cZ) (cR := cR) (wc := (wd_X11_inside cI cZ cR)) (w' := (wd_X11_inside cI cZ cR)) [] hP hD hS hA rfl rfl rfl (rnSN (As := [.int t_count, .int (1024 : Int32)]) X [] hK hP hD rfl rfl (c_X11_inside l D cI cZ cR hr9) ⟨va_cnB (host := "DivisionHall") 2 hts ggX10_list_X11_inside rfl rfl rfl (hN.2.1 ("DivisionHall$Trader", 65, yX11_inside, "DivisionHall") (by decide +kernel)) (hts (.initialized RX11) (by decide +kernel)) (by decide +kernel) ⟨Nat.le_of_ble_eq_true rfl, Nat.le_of_ble_eq_true rfl⟩, hts (.static yX11_inside) (by decide +kernel), trivial⟩ rfl hl.1 rfl (Nat.le_of_ble_eq_true rfl) dX10_list_37) (fun H locs hP hD hS => ?_)
          have hP : va_P D vwCl (wd_X10_list cI cZ cR a_p1 a_p1_bits a_p1_trade a_t a_t_sets a_t_figures a_t_sums p1_in p1_fresh p1_tradeSought t_carrying t_count p1_bits_r t_figures_r t_sets_r) H := hP
          have hD : va_D A (wd_X10_list cI cZ cR a_p1 a_p1_bits a_p1_trade a_t a_t_sets a_t_figures a_t_sums p1_in p1_fresh p1_tradeSought t_carrying t_count p1_bits_r t_figures_r t_sets_r) := hD
          refine lv_if_eq (tgt := 76) hx hb dX10_list_40 (by decide) (fun c10 => ?_) (fun c10 => ?_)
          · have hf := ipos c10 hf
            refine lv_iinc (v := (x3 + (1 : Int32))) (lv' := [(3, .int (x3 + (1 : Int32))), (0, .ref a_t), (1, .ref a_p1), (2, .int x2)]) hx hb dX10_list_76 hl (k := 3) rfl rfl (by decide) rfl (fun ls hl => ?_)
            refine lv_goto (tgt := 2) hx hb dX10_list_79 (by decide) ?_
            exact ih (x3 + (1 : Int32)) t_count t_figures_r t_sets_r hf _ _ hP hD hS _ (lv_sub hl [1, 2, 3, 0] rfl)
          · have hf := ineg c10 hf
            refine lv_aload_n hx hb dX10_list_43 rfl (lv_at hl 0 rfl) ?_
            refine va_get (D := D) (ci := 9) (v := .ref a_t_sets) (C := RX10) (T := TX10) (N := 5) hx hb hts in_X10_list_X10 hown hK hP 1 rfl rfl 0 (by decide) (hts (.fieldLink RX10 9 "DivisionHall$Trader" "sets" "[I") (by decide +kernel)) (fun _ h9 => h9) rfl dX10_list_44 ?_
            refine lv_aload_n hx hb dX10_list_47 rfl (lv_at hl 0 rfl) ?_
            refine va_get (D := D) (ci := 9) (v := .int t_count) (C := RX10) (T := TX10) (N := 5) hx hb hts in_X10_list_X10 hown hK hP 1 rfl rfl 4 (by decide) (hts (.fieldLink RX10 36 "DivisionHall$Trader" "count" "I") (by decide +kernel)) (fun _ h9 => h9) rfl dX10_list_48 ?_
            refine lv_iload_n hx hb dX10_list_51 rfl (lv_at hl 3 rfl) ?_
            obtain ⟨hi11, hf⟩ := gin_s hf
            refine va_iast hx hb hK hP hD hS 4 0 rfl rfl hi11 dX10_list_52 (fun H locs hP hD hS => ?_)
            have hP : va_P D vwCl (wd_X10_list cI cZ cR a_p1 a_p1_bits a_p1_trade a_t a_t_sets a_t_figures a_t_sums p1_in p1_fresh p1_tradeSought t_carrying t_count p1_bits_r t_figures_r (upd t_sets_r (t_count).toNatClampNeg x3)) H := hP
            have hD : va_D A (wd_X10_list cI cZ cR a_p1 a_p1_bits a_p1_trade a_t a_t_sets a_t_figures a_t_sums p1_in p1_fresh p1_tradeSought t_carrying t_count p1_bits_r t_figures_r (upd t_sets_r (t_count).toNatClampNeg x3)) := hD
            refine lv_aload_n hx hb dX10_list_53 rfl (lv_at hl 0 rfl) ?_
            refine va_get (D := D) (ci := 9) (v := .ref a_t_figures) (C := RX10) (T := TX10) (N := 5) hx hb hts in_X10_list_X10 hown hK hP 1 rfl rfl 1 (by decide) (hts (.fieldLink RX10 15 "DivisionHall$Trader" "figures" "[I") (by decide +kernel)) (fun _ h9 => h9) rfl dX10_list_54 ?_
            refine lv_aload_n hx hb dX10_list_57 rfl (lv_at hl 0 rfl) ?_
            refine va_get (D := D) (ci := 9) (v := .int t_count) (C := RX10) (T := TX10) (N := 5) hx hb hts in_X10_list_X10 hown hK hP 1 rfl rfl 4 (by decide) (hts (.fieldLink RX10 36 "DivisionHall$Trader" "count" "I") (by decide +kernel)) (fun _ h9 => h9) rfl dX10_list_58 ?_
            refine lv_iload_n hx hb dX10_list_61 rfl (lv_at hl 3 rfl) ?_
            obtain ⟨r12, hr13, hf⟩ := bnd hf
            refine wcalli (D := D) (cI := cI) (cZ := cZ) (cR := cR) (wc := (wd_X10_figureOf cI cZ cR)) (w' := (wd_X10_figureOf cI cZ cR)) [] hP hD hS hA rfl rfl rfl (rnS (As := [.int x3]) X [] hK hP hD rfl rfl (c_X10_figureOf l D cI cZ cR hr13) (cwS 1 hts gX10_list_X10_figureOf rfl rfl rfl (by decide +kernel) ⟨Nat.le_of_ble_eq_true rfl, Nat.le_of_ble_eq_true rfl⟩) rfl hl.1 rfl (Nat.le_of_ble_eq_true rfl) dX10_list_62) (fun H locs hP hD hS => ?_)
            have hP : va_P D vwCl (wd_X10_list cI cZ cR a_p1 a_p1_bits a_p1_trade a_t a_t_sets a_t_figures a_t_sums p1_in p1_fresh p1_tradeSought t_carrying t_count p1_bits_r t_figures_r (upd t_sets_r (t_count).toNatClampNeg x3)) H := hP
            have hD : va_D A (wd_X10_list cI cZ cR a_p1 a_p1_bits a_p1_trade a_t a_t_sets a_t_figures a_t_sums p1_in p1_fresh p1_tradeSought t_carrying t_count p1_bits_r t_figures_r (upd t_sets_r (t_count).toNatClampNeg x3)) := hD
            obtain ⟨hi14, hf⟩ := gin_s hf
            refine va_iast hx hb hK hP hD hS 3 0 rfl rfl hi14 dX10_list_65 (fun H locs hP hD hS => ?_)
            have hP : va_P D vwCl (wd_X10_list cI cZ cR a_p1 a_p1_bits a_p1_trade a_t a_t_sets a_t_figures a_t_sums p1_in p1_fresh p1_tradeSought t_carrying t_count p1_bits_r (upd t_figures_r (t_count).toNatClampNeg r12) (upd t_sets_r (t_count).toNatClampNeg x3)) H := hP
            have hD : va_D A (wd_X10_list cI cZ cR a_p1 a_p1_bits a_p1_trade a_t a_t_sets a_t_figures a_t_sums p1_in p1_fresh p1_tradeSought t_carrying t_count p1_bits_r (upd t_figures_r (t_count).toNatClampNeg r12) (upd t_sets_r (t_count).toNatClampNeg x3)) := hD
            refine lv_aload_n hx hb dX10_list_66 rfl (lv_at hl 0 rfl) ?_
            refine lv_dup hx hb dX10_list_67 rfl ?_
            refine va_get (D := D) (ci := 9) (v := .int t_count) (C := RX10) (T := TX10) (N := 5) hx hb hts in_X10_list_X10 hown hK hP 1 rfl rfl 4 (by decide) (hts (.fieldLink RX10 36 "DivisionHall$Trader" "count" "I") (by decide +kernel)) (fun _ h9 => h9) rfl dX10_list_68 ?_
            refine lv_iconst (v := (1 : Int32)) hx hb dX10_list_71 (by decide) ?_
            refine lv_iadd hx hb dX10_list_72 ?_
            refine va_put (D := D) (ci := 9) (v := .int (t_count + (1 : Int32))) (ty := .int) (C := RX10) (T := TX10) (N := 5) hx hb hts in_X10_list_X10 tyX10 tyX10_ok nmX10 hown hK hP hD hS 1 rfl rfl 4 (by decide) (hts (.fieldLink RX10 36 "DivisionHall$Trader" "count" "I") (by decide +kernel)) (fun _ h9 => h9) rfl (by decide +kernel) rfl rfl (Nat.le_of_ble_eq_true rfl) dX10_list_73 (fun H locs hP hD hS => ?_)
            have hP : va_P D vwCl (wd_X10_list cI cZ cR a_p1 a_p1_bits a_p1_trade a_t a_t_sets a_t_figures a_t_sums p1_in p1_fresh p1_tradeSought t_carrying (t_count + (1 : Int32)) p1_bits_r (upd t_figures_r (t_count).toNatClampNeg r12) (upd t_sets_r (t_count).toNatClampNeg x3)) H := hP
            have hD : va_D A (wd_X10_list cI cZ cR a_p1 a_p1_bits a_p1_trade a_t a_t_sets a_t_figures a_t_sums p1_in p1_fresh p1_tradeSought t_carrying (t_count + (1 : Int32)) p1_bits_r (upd t_figures_r (t_count).toNatClampNeg r12) (upd t_sets_r (t_count).toNatClampNeg x3)) := hD
            refine lv_iinc (v := (x3 + (1 : Int32))) (lv' := [(3, .int (x3 + (1 : Int32))), (0, .ref a_t), (1, .ref a_p1), (2, .int x2)]) hx hb dX10_list_76 hl (k := 3) rfl rfl (by decide) rfl (fun ls hl => ?_)
            refine lv_goto (tgt := 2) hx hb dX10_list_79 (by decide) ?_
            exact ih (x3 + (1 : Int32)) (t_count + (1 : Int32)) (upd t_figures_r (t_count).toNatClampNeg r12) (upd t_sets_r (t_count).toNatClampNeg x3) hf _ _ hP hD hS _ (lv_sub hl [1, 2, 3, 0] rfl)
set_option maxHeartbeats 4000000 in
set_option maxRecDepth 100000 in
theorem c_X10_list (l : Launch) (D : va_G) (cI cZ cR : ClassId) {a_p1 a_p1_bits a_p1_trade a_t a_t_sets a_t_figures a_t_sums : Nat} {p1_in : Int32} {p1_fresh : Int32} {p1_tradeSought : Int32} {t_carrying : Int32} {t_count : Int32} {p1_bits_r : Nat → Int32} {t_figures_r : Nat → Int32} {t_sets_r : Nat → Int32} {x2 : Int32} {sz : Nat} {out : Int32 × (Nat → Int32) × (Nat → Int32)} (hf : F_X10_list x2 p1_in p1_bits_r t_count t_figures_r t_sets_r = some out) : CV l yX10_list wsX10_list ({ frames := 2, cells := 0, slots := 0, locals := 42 } : Room) D cI cZ cR [.ref a_t, .ref a_p1, .int x2] (wd_X10_list cI cZ cR a_p1 a_p1_bits a_p1_trade a_t a_t_sets a_t_figures a_t_sums p1_in p1_fresh p1_tradeSought t_carrying t_count p1_bits_r t_figures_r t_sets_r) sz (wd_X10_list cI cZ cR a_p1 a_p1_bits a_p1_trade a_t a_t_sets a_t_figures a_t_sums p1_in p1_fresh p1_tradeSought t_carrying (out.1) p1_bits_r (out.2.1) (out.2.2)) := by
  refine met_of (Qf := fun A => qv D cI cZ cR A (wd_X10_list cI cZ cR a_p1 a_p1_bits a_p1_trade a_t a_t_sets a_t_figures a_t_sums p1_in p1_fresh p1_tradeSought t_carrying (out.1) p1_bits_r (out.2.1) (out.2.2))) RX10 (by decide +kernel) rfl rfl (Nat.le_of_ble_eq_true rfl) ?_
  intro p e s m below meth c A X hK hA hP hD hS ls hl
  have hl : lv_has ls 4 [(0, .ref a_t), (1, .ref a_p1), (2, .int x2)] := hl
  obtain ⟨hx, hb, hml, hr, hown, hts, hlocks, hN⟩ := id X
  unfold F_X10_list at hf
  refine lv_iconst (v := (0 : Int32)) hx hb dX10_list_0 (by decide) ?_
  refine lv_istore_n (lv' := [(3, .int (0 : Int32)), (0, .ref a_t), (1, .ref a_p1), (2, .int x2)]) hx hb dX10_list_1 rfl hl (by decide) rfl (fun ls hl => ?_)
  exact w_X10_list_2 X hK hA _ (0 : Int32) t_count t_figures_r t_sets_r hf _ _ hP hD hS _ (lv_sub hl [1, 2, 3, 0] rfl)
