abbrev wd_X6_passes (cI cZ cR : ClassId) (a_p2 a_p2_weight a_p2_membersOf a_t a_t_code a_t_stack a_t_table a_t_table_bits a_t_table_trade : Nat) (p2_in p2_all t_codes t_table_in t_table_fresh t_table_tradeSought : Int32) (p2_membersOf_r : Nat → Int32) (p2_weight_r : Nat → Int32) (t_code_r : Nat → Int32) (t_stack_r : Nat → Int32) (t_table_bits_r : Nat → Int32) : va_W := [(a_p2, oB 7 [.ref a_p2_weight, .ref a_p2_membersOf, .int p2_in, .int p2_all]), (a_t, oB 6 [.ref a_t_code, .ref a_t_stack, .ref a_t_table, .int t_codes]), (a_p2_membersOf, aI cI 6 p2_membersOf_r), (a_p2_weight, aI cI 10 p2_weight_r), (a_t_code, aI cI 400 t_code_r), (a_t_stack, aI cI 40 t_stack_r), (a_t_table, oB 8 [.ref a_t_table_bits, .ref a_t_table_trade, .int t_table_in, .int t_table_fresh, .int t_table_tradeSought]), (a_t_table_bits, aI cI 32 t_table_bits_r)]
set_option maxRecDepth 100000 in
theorem in_X6_passes_X6 : ∀ w ∈ wsX60, w ∈ wsX6_passes := by decide +kernel
set_option maxRecDepth 100000 in
theorem in_X6_passes_X9 : ∀ w ∈ wsX90, w ∈ wsX6_passes := by decide +kernel
set_option maxHeartbeats 4000000 in
set_option maxRecDepth 100000 in
theorem c_X6_passes (l : Launch) (D : va_G) (cI cZ cR : ClassId) {a_p2 a_p2_weight a_p2_membersOf a_t a_t_code a_t_stack a_t_table a_t_table_bits a_t_table_trade : Nat} {p2_in : Int32} {p2_all : Int32} {t_codes : Int32} {t_table_in : Int32} {t_table_fresh : Int32} {t_table_tradeSought : Int32} {p2_membersOf_r : Nat → Int32} {p2_weight_r : Nat → Int32} {t_code_r : Nat → Int32} {t_stack_r : Nat → Int32} {t_table_bits_r : Nat → Int32} {x1 : Int32} {sz : Nat} {out : Int32 × (Nat → Int32)} (hf : F_X6_passes x1 p2_all p2_in p2_membersOf_r p2_weight_r t_codes t_code_r t_stack_r t_table_fresh t_table_bits_r = some out) : CI l yX6_passes wsX6_passes ({ frames := 3, cells := 0, slots := 0, locals := 71 } : Room) D cI cZ cR [.ref a_t, .int x1, .ref a_p2] (wd_X6_passes cI cZ cR a_p2 a_p2_weight a_p2_membersOf a_t a_t_code a_t_stack a_t_table a_t_table_bits a_t_table_trade p2_in p2_all t_codes t_table_in t_table_fresh t_table_tradeSought p2_membersOf_r p2_weight_r t_code_r t_stack_r t_table_bits_r) sz (out.1) (wd_X6_passes cI cZ cR a_p2 a_p2_weight a_p2_membersOf a_t a_t_code a_t_stack a_t_table a_t_table_bits a_t_table_trade p2_in p2_all t_codes t_table_in t_table_fresh t_table_tradeSought p2_membersOf_r p2_weight_r t_code_r (out.2) t_table_bits_r) := by
  refine met_of (Qf := fun A => qi D cI cZ cR A (out.1) (wd_X6_passes cI cZ cR a_p2 a_p2_weight a_p2_membersOf a_t a_t_code a_t_stack a_t_table a_t_table_bits a_t_table_trade p2_in p2_all t_codes t_table_in t_table_fresh t_table_tradeSought p2_membersOf_r p2_weight_r t_code_r (out.2) t_table_bits_r)) RX6 (by decide +kernel) rfl rfl (Nat.le_of_ble_eq_true rfl) ?_
  intro p e s m below meth c A X hK hA hP hD hS ls hl
  have hl : lv_has ls 3 [(0, .ref a_t), (1, .int x1), (2, .ref a_p2)] := hl
  obtain ⟨hx, hb, hml, hr, hown, hts, hlocks, hN⟩ := id X
  unfold F_X6_passes at hf
  refine lv_aload_n hx hb dX6_passes_0 rfl (lv_at hl 0 rfl) ?_
  refine va_get (D := D) (ci := 6) (v := .ref a_t_table) (C := RX6) (T := TX6) (N := 4) hx hb hts in_X6_passes_X6 hown hK hP 1 rfl rfl 2 (by decide) (hts (.fieldLink RX6 23 "DivisionHall$Rule" "table" "LDivisionHall$Table;") (by decide +kernel)) (fun _ h9 => h9) rfl dX6_passes_1 ?_
  refine va_getN (D := D) (ci := 8) (v := .int t_table_fresh) (C := RX9) (T := TX9) (N := 5) hx hb hts in_X6_passes_X9 hown hK hP 6 rfl rfl 3 (by decide) (va_Nw.use rfl (hN.1 ("DivisionHall$Rule", 39, "DivisionHall$Table", "fresh", "Z", "DivisionHall") (by decide +kernel))) (fun _ h9 => h9) rfl dX6_passes_4 ?_
  refine lv_if_eq (tgt := 21) hx hb dX6_passes_7 (by decide) (fun c1 => ?_) (fun c1 => ?_)
  · have hf := ipos c1 hf
    refine lv_aload_n hx hb dX6_passes_21 rfl (lv_at hl 0 rfl) ?_
    refine lv_iload_n hx hb dX6_passes_22 rfl (lv_at hl 1 rfl) ?_
    refine lv_aload_n hx hb dX6_passes_23 rfl (lv_at hl 2 rfl) ?_
    obtain ⟨r2, hr3, hf⟩ := bnd hf
    refine wcalli (D := D) (cI := cI) (cZ := cZ) (cR := cR) (wc := (wd_X6_holds cI cZ cR a_p2 a_p2_weight a_p2_membersOf a_t a_t_code a_t_stack a_t_table p2_in p2_all t_codes p2_membersOf_r p2_weight_r t_code_r t_stack_r)) (w' := (wd_X6_holds cI cZ cR a_p2 a_p2_weight a_p2_membersOf a_t a_t_code a_t_stack a_t_table p2_in p2_all t_codes p2_membersOf_r p2_weight_r t_code_r (r2.2))) [0, 1, 2, 3, 4, 5] hP hD hS hA rfl rfl rfl (rnV (As := [.int x1, .ref a_p2]) (ci := 6) (q0 := 1) X [0, 1, 2, 3, 4, 5] hK hP hD rfl rfl rfl rfl (c_X6_holds l D cI cZ cR hr3) (cwV 2 hts gX6_passes_X6_holds rfl rfl rfl (by decide +kernel) ⟨Nat.le_of_ble_eq_true rfl, Nat.le_of_ble_eq_true rfl⟩) rfl hl.1 rfl (Nat.le_of_ble_eq_true rfl) dX6_passes_24) (fun H locs hP hD hS => ?_)
    have hP : va_P D vwCl (wd_X6_passes cI cZ cR a_p2 a_p2_weight a_p2_membersOf a_t a_t_code a_t_stack a_t_table a_t_table_bits a_t_table_trade p2_in p2_all t_codes t_table_in t_table_fresh t_table_tradeSought p2_membersOf_r p2_weight_r t_code_r (r2.2) t_table_bits_r) H := hP
    have hD : va_D A (wd_X6_passes cI cZ cR a_p2 a_p2_weight a_p2_membersOf a_t a_t_code a_t_stack a_t_table a_t_table_bits a_t_table_trade p2_in p2_all t_codes t_table_in t_table_fresh t_table_tradeSought p2_membersOf_r p2_weight_r t_code_r (r2.2) t_table_bits_r) := hD
    obtain ⟨hb4, hf⟩ := gb_s hf
    cases hf
    exact retz hb4 X hK hP hD hS dX6_passes_27
  · have hf := ineg c1 hf
    refine lv_aload_n hx hb dX6_passes_10 rfl (lv_at hl 0 rfl) ?_
    refine va_get (D := D) (ci := 6) (v := .ref a_t_table) (C := RX6) (T := TX6) (N := 4) hx hb hts in_X6_passes_X6 hown hK hP 1 rfl rfl 2 (by decide) (hts (.fieldLink RX6 23 "DivisionHall$Rule" "table" "LDivisionHall$Table;") (by decide +kernel)) (fun _ h9 => h9) rfl dX6_passes_11 ?_
    refine lv_iload_n hx hb dX6_passes_14 rfl (lv_at hl 1 rfl) ?_
    obtain ⟨r5, hr6, hf⟩ := bnd hf
    refine wcalli (D := D) (cI := cI) (cZ := cZ) (cR := cR) (wc := (wd_X9_at cI cZ cR a_t_table a_t_table_bits a_t_table_trade t_table_in t_table_fresh t_table_tradeSought t_table_bits_r)) (w' := (wd_X9_at cI cZ cR a_t_table a_t_table_bits a_t_table_trade t_table_in t_table_fresh t_table_tradeSought t_table_bits_r)) [6, 7] hP hD hS hA rfl rfl rfl (rnV (As := [.int x1]) (ci := 8) (q0 := 6) X [6, 7] hK hP hD rfl rfl rfl rfl (c_X9_at l D cI cZ cR hr6) (cwV 1 hts gX6_passes_X9_at rfl rfl rfl (by decide +kernel) ⟨Nat.le_of_ble_eq_true rfl, Nat.le_of_ble_eq_true rfl⟩) rfl hl.1 rfl (Nat.le_of_ble_eq_true rfl) dX6_passes_15) (fun H locs hP hD hS => ?_)
    have hP : va_P D vwCl (wd_X6_passes cI cZ cR a_p2 a_p2_weight a_p2_membersOf a_t a_t_code a_t_stack a_t_table a_t_table_bits a_t_table_trade p2_in p2_all t_codes t_table_in t_table_fresh t_table_tradeSought p2_membersOf_r p2_weight_r t_code_r t_stack_r t_table_bits_r) H := hP
    have hD : va_D A (wd_X6_passes cI cZ cR a_p2 a_p2_weight a_p2_membersOf a_t a_t_code a_t_stack a_t_table a_t_table_bits a_t_table_trade p2_in p2_all t_codes t_table_in t_table_fresh t_table_tradeSought p2_membersOf_r p2_weight_r t_code_r t_stack_r t_table_bits_r) := hD
    refine lv_goto (tgt := 27) hx hb dX6_passes_18 (by decide) ?_
    obtain ⟨hb7, hf⟩ := gb_s hf
    cases hf
    exact retz hb7 X hK hP hD hS dX6_passes_27

abbrev wd_X6_tabulate (cI cZ cR : ClassId) (a_p1 a_p1_weight a_p1_membersOf a_t a_t_code a_t_stack a_t_table a_t_table_bits a_t_table_trade : Nat) (p1_in p1_all t_codes t_table_in t_table_fresh t_table_tradeSought : Int32) (p1_membersOf_r : Nat → Int32) (p1_weight_r : Nat → Int32) (t_code_r : Nat → Int32) (t_stack_r : Nat → Int32) (t_table_bits_r : Nat → Int32) : va_W := [(a_p1, oB 7 [.ref a_p1_weight, .ref a_p1_membersOf, .int p1_in, .int p1_all]), (a_t, oB 6 [.ref a_t_code, .ref a_t_stack, .ref a_t_table, .int t_codes]), (a_p1_membersOf, aI cI 6 p1_membersOf_r), (a_p1_weight, aI cI 10 p1_weight_r), (a_t_code, aI cI 400 t_code_r), (a_t_stack, aI cI 40 t_stack_r), (a_t_table, oB 8 [.ref a_t_table_bits, .ref a_t_table_trade, .int t_table_in, .int t_table_fresh, .int t_table_tradeSought]), (a_t_table_bits, aI cI 32 t_table_bits_r)]
set_option maxRecDepth 100000 in
theorem in_X6_tabulate_X6 : ∀ w ∈ wsX60, w ∈ wsX6_tabulate := by decide +kernel
set_option maxRecDepth 100000 in
theorem in_X6_tabulate_X7 : ∀ w ∈ wsX70, w ∈ wsX6_tabulate := by decide +kernel
set_option maxRecDepth 100000 in
theorem in_X6_tabulate_X9 : ∀ w ∈ wsX90, w ∈ wsX6_tabulate := by decide +kernel
set_option maxHeartbeats 4000000 in
set_option maxRecDepth 100000 in
theorem w_X6_tabulate_24 {p : Program} {l : Launch} {e : Env} {s : State} {m : MethodId} {args : Array Value} {below : List Frame} {meth : Method} {c : Code} {D : va_G} {cI cZ cR : ClassId} {A : Nat → Prop} {a_p1 a_p1_weight a_p1_membersOf a_t a_t_code a_t_stack a_t_table a_t_table_bits a_t_table_trade : Nat} {p1_in : Int32} {p1_all : Int32} {t_codes : Int32} {p1_membersOf_r : Nat → Int32} {p1_weight_r : Nat → Int32} {t_code_r : Nat → Int32} {out : (Nat → Int32) × Int32 × Int32 × Int32 × (Nat → Int32)} (X : cx p s m args meth c cX6_tabulate 3 none RX6 wsX6_tabulate) (hK : va_K D vwCl (ty3 cI cZ cR) s) (hA : ∀ q, s.heap.size ≤ q → A q) : ∀ (n : Nat) (x2 : Int32) (t_stack_r : Nat → Int32) (t_table_fresh : Int32) (t_table_in : Int32) (t_table_tradeSought : Int32) (t_table_bits_r : Nat → Int32), F_X6_tabulate_24 p1_all p1_in p1_membersOf_r p1_weight_r t_codes t_code_r n x2 t_stack_r t_table_fresh t_table_in t_table_tradeSought t_table_bits_r = some out → ∀ (H : Heap) (locs : List Loc), va_P D vwCl (wd_X6_tabulate cI cZ cR a_p1 a_p1_weight a_p1_membersOf a_t a_t_code a_t_stack a_t_table a_t_table_bits a_t_table_trade p1_in p1_all t_codes t_table_in t_table_fresh t_table_tradeSought p1_membersOf_r p1_weight_r t_code_r t_stack_r t_table_bits_r) H → va_D A (wd_X6_tabulate cI cZ cR a_p1 a_p1_weight a_p1_membersOf a_t a_t_code a_t_stack a_t_table a_t_table_bits a_t_table_trade p1_in p1_all t_codes t_table_in t_table_fresh t_table_tradeSought p1_membersOf_r p1_weight_r t_code_r t_stack_r t_table_bits_r) → va_S A s.heap H locs → ∀ (ls : Array Slot), lv_has ls 3 [(0, .ref a_t), (1, .ref a_p1), (2, .int x2)] → W p l e (headSpec wsX6_tabulate ({ frames := 3, cells := 0, slots := 0, locals := 71 } : Room)).room s m args below meth c H locs 0 0 (MQ below (qv D cI cZ cR A (wd_X6_tabulate cI cZ cR a_p1 a_p1_weight a_p1_membersOf a_t a_t_code a_t_stack a_t_table a_t_table_bits a_t_table_trade p1_in p1_all t_codes (out.2.2.1) (out.2.1) (out.2.2.2.1) p1_membersOf_r p1_weight_r t_code_r (out.1) (out.2.2.2.2))) args s 0 0 A) (F0 m 24 ls []) := by
  obtain ⟨hx, hb, hml, hr, hown, hts, hlocks, hN⟩ := id X
  intro n
  induction n with
  | zero =>
    intro x2 t_stack_r t_table_fresh t_table_in t_table_tradeSought t_table_bits_r hf
    cases (show (none : Option ((Nat → Int32) × Int32 × Int32 × Int32 × (Nat → Int32))) = some out from hf)
  | succ n ih =>
    intro x2 t_stack_r t_table_fresh t_table_in t_table_tradeSought t_table_bits_r hf H locs hP hD hS ls hl
    rw [F_X6_tabulate_24] at hf
    refine lv_iload_n hx hb dX6_tabulate_24 rfl (lv_at hl 2 rfl) ?_
    refine lv_sipush (v := (1024 : Int32)) hx hb dX6_tabulate_25 (by decide) ?_
    refine lv_icmp_ge (tgt := 65) hx hb dX6_tabulate_28 (by decide) (fun c4 => ?_) (fun c4 => ?_)
    · have hf := ipos c4 hf
      refine lv_aload_n hx hb dX6_tabulate_65 rfl (lv_at hl 0 rfl) ?_
      refine va_get (D := D) (ci := 6) (v := .ref a_t_table) (C := RX6) (T := TX6) (N := 4) hx hb hts in_X6_tabulate_X6 hown hK hP 1 rfl rfl 2 (by decide) (hts (.fieldLink RX6 23 "DivisionHall$Rule" "table" "LDivisionHall$Table;") (by decide +kernel)) (fun _ h9 => h9) rfl dX6_tabulate_66 ?_
      refine lv_iconst (v := (1 : Int32)) hx hb dX6_tabulate_69 (by decide) ?_
      refine va_putN (D := D) (ci := 8) (v := .int (1 : Int32)) (ty := .boolean) (C := RX9) (T := TX9) (N := 5) hx hb hts in_X6_tabulate_X9 tyX9 tyX9_ok nmX9 hown hK hP hD hS 6 rfl rfl 3 (by decide) (va_Nw.use rfl (hN.1 ("DivisionHall$Rule", 39, "DivisionHall$Table", "fresh", "Z", "DivisionHall") (by decide +kernel))) (fun _ h9 => h9) rfl (by decide +kernel) rfl rfl (Nat.le_of_ble_eq_true rfl) dX6_tabulate_70 (fun H locs hP hD hS => ?_)
      have hP : va_P D vwCl (wd_X6_tabulate cI cZ cR a_p1 a_p1_weight a_p1_membersOf a_t a_t_code a_t_stack a_t_table a_t_table_bits a_t_table_trade p1_in p1_all t_codes t_table_in (1 : Int32) t_table_tradeSought p1_membersOf_r p1_weight_r t_code_r t_stack_r t_table_bits_r) H := hP
      have hD : va_D A (wd_X6_tabulate cI cZ cR a_p1 a_p1_weight a_p1_membersOf a_t a_t_code a_t_stack a_t_table a_t_table_bits a_t_table_trade p1_in p1_all t_codes t_table_in (1 : Int32) t_table_tradeSought p1_membersOf_r p1_weight_r t_code_r t_stack_r t_table_bits_r) := hD
      cases hf
      exact retv X hK hP hD hS dX6_tabulate_73
    · have hf := ineg c4 hf
      refine lv_iload_n hx hb dX6_tabulate_31 rfl (lv_at hl 2 rfl) ?_
      refine lv_aload_n hx hb dX6_tabulate_32 rfl (lv_at hl 1 rfl) ?_
      refine va_getN (D := D) (ci := 7) (v := .int p1_in) (C := RX7) (T := TX7) (N := 4) hx hb hts in_X6_tabulate_X7 hown hK hP 0 rfl rfl 2 (by decide) (va_Nw.use rfl (hN.1 ("DivisionHall$Rule", 68, "DivisionHall$Seats", "in", "I", "DivisionHall") (by decide +kernel))) (fun _ h9 => h9) rfl dX6_tabulate_33 ?_
      obtain ⟨r5, hr6, hf⟩ := bnd hf
      refine wcalli (D := D) (cI := cI) (cZ := cZ) (cR := cR) (wc := (wd_X11_isWithin cI cZ cR)) (w' := (wd_X11_isWithin cI cZ cR)) [] hP hD hS hA rfl rfl rfl (rnSN (As := [.int x2, .int p1_in]) X [] hK hP hD rfl rfl (c_X11_isWithin l D cI cZ cR hr6) ⟨va_cnB (host := "DivisionHall") 2 hts ggX6_tabulate_X11_isWithin rfl rfl rfl (hN.2.1 ("DivisionHall$Rule", 89, yX11_isWithin, "DivisionHall") (by decide +kernel)) (hts (.initialized RX11) (by decide +kernel)) (by decide +kernel) ⟨Nat.le_of_ble_eq_true rfl, Nat.le_of_ble_eq_true rfl⟩, hts (.static yX11_isWithin) (by decide +kernel), trivial⟩ rfl hl.1 rfl (Nat.le_of_ble_eq_true rfl) dX6_tabulate_36) (fun H locs hP hD hS => ?_)
      have hP : va_P D vwCl (wd_X6_tabulate cI cZ cR a_p1 a_p1_weight a_p1_membersOf a_t a_t_code a_t_stack a_t_table a_t_table_bits a_t_table_trade p1_in p1_all t_codes t_table_in t_table_fresh t_table_tradeSought p1_membersOf_r p1_weight_r t_code_r t_stack_r t_table_bits_r) H := hP
      have hD : va_D A (wd_X6_tabulate cI cZ cR a_p1 a_p1_weight a_p1_membersOf a_t a_t_code a_t_stack a_t_table a_t_table_bits a_t_table_trade p1_in p1_all t_codes t_table_in t_table_fresh t_table_tradeSought p1_membersOf_r p1_weight_r t_code_r t_stack_r t_table_bits_r) := hD
      refine lv_if_eq (tgt := 59) hx hb dX6_tabulate_39 (by decide) (fun c7 => ?_) (fun c7 => ?_)
      · have hf := ipos c7 hf
        refine lv_iinc (v := (x2 + (1 : Int32))) (lv' := [(2, .int (x2 + (1 : Int32))), (0, .ref a_t), (1, .ref a_p1)]) hx hb dX6_tabulate_59 hl (k := 2) rfl rfl (by decide) rfl (fun ls hl => ?_)
        refine lv_goto (tgt := 24) hx hb dX6_tabulate_62 (by decide) ?_
        exact ih (x2 + (1 : Int32)) t_stack_r t_table_fresh t_table_in t_table_tradeSought t_table_bits_r hf _ _ hP hD hS _ (lv_sub hl [1, 2, 0] rfl)
      · have hf := ineg c7 hf
        refine lv_aload_n hx hb dX6_tabulate_42 rfl (lv_at hl 0 rfl) ?_
        refine lv_iload_n hx hb dX6_tabulate_43 rfl (lv_at hl 2 rfl) ?_
        refine lv_aload_n hx hb dX6_tabulate_44 rfl (lv_at hl 1 rfl) ?_
        obtain ⟨r8, hr9, hf⟩ := bnd hf
        refine wcalli (D := D) (cI := cI) (cZ := cZ) (cR := cR) (wc := (wd_X6_holds cI cZ cR a_p1 a_p1_weight a_p1_membersOf a_t a_t_code a_t_stack a_t_table p1_in p1_all t_codes p1_membersOf_r p1_weight_r t_code_r t_stack_r)) (w' := (wd_X6_holds cI cZ cR a_p1 a_p1_weight a_p1_membersOf a_t a_t_code a_t_stack a_t_table p1_in p1_all t_codes p1_membersOf_r p1_weight_r t_code_r (r8.2))) [0, 1, 2, 3, 4, 5] hP hD hS hA rfl rfl rfl (rnV (As := [.int x2, .ref a_p1]) (ci := 6) (q0 := 1) X [0, 1, 2, 3, 4, 5] hK hP hD rfl rfl rfl rfl (c_X6_holds l D cI cZ cR hr9) (cwV 2 hts gX6_tabulate_X6_holds rfl rfl rfl (by decide +kernel) ⟨Nat.le_of_ble_eq_true rfl, Nat.le_of_ble_eq_true rfl⟩) rfl hl.1 rfl (Nat.le_of_ble_eq_true rfl) dX6_tabulate_45) (fun H locs hP hD hS => ?_)
        have hP : va_P D vwCl (wd_X6_tabulate cI cZ cR a_p1 a_p1_weight a_p1_membersOf a_t a_t_code a_t_stack a_t_table a_t_table_bits a_t_table_trade p1_in p1_all t_codes t_table_in t_table_fresh t_table_tradeSought p1_membersOf_r p1_weight_r t_code_r (r8.2) t_table_bits_r) H := hP
        have hD : va_D A (wd_X6_tabulate cI cZ cR a_p1 a_p1_weight a_p1_membersOf a_t a_t_code a_t_stack a_t_table a_t_table_bits a_t_table_trade p1_in p1_all t_codes t_table_in t_table_fresh t_table_tradeSought p1_membersOf_r p1_weight_r t_code_r (r8.2) t_table_bits_r) := hD
        refine lv_if_eq (tgt := 59) hx hb dX6_tabulate_48 (by decide) (fun c10 => ?_) (fun c10 => ?_)
        · have hf := ipos c10 hf
          refine lv_iinc (v := (x2 + (1 : Int32))) (lv' := [(2, .int (x2 + (1 : Int32))), (0, .ref a_t), (1, .ref a_p1)]) hx hb dX6_tabulate_59 hl (k := 2) rfl rfl (by decide) rfl (fun ls hl => ?_)
          refine lv_goto (tgt := 24) hx hb dX6_tabulate_62 (by decide) ?_
          exact ih (x2 + (1 : Int32)) (r8.2) t_table_fresh t_table_in t_table_tradeSought t_table_bits_r hf _ _ hP hD hS _ (lv_sub hl [1, 2, 0] rfl)
        · have hf := ineg c10 hf
          refine lv_aload_n hx hb dX6_tabulate_51 rfl (lv_at hl 0 rfl) ?_
          refine va_get (D := D) (ci := 6) (v := .ref a_t_table) (C := RX6) (T := TX6) (N := 4) hx hb hts in_X6_tabulate_X6 hown hK hP 1 rfl rfl 2 (by decide) (hts (.fieldLink RX6 23 "DivisionHall$Rule" "table" "LDivisionHall$Table;") (by decide +kernel)) (fun _ h9 => h9) rfl dX6_tabulate_52 ?_
          refine lv_iload_n hx hb dX6_tabulate_55 rfl (lv_at hl 2 rfl) ?_
          obtain ⟨r11, hr12, hf⟩ := bnd hf
          refine wcallv (D := D) (cI := cI) (cZ := cZ) (cR := cR) (wc := (wd_X9_mark cI cZ cR a_t_table a_t_table_bits a_t_table_trade t_table_in t_table_fresh t_table_tradeSought t_table_bits_r)) (w' := (wd_X9_mark cI cZ cR a_t_table a_t_table_bits a_t_table_trade t_table_in t_table_fresh t_table_tradeSought r11)) [6, 7] hP hD hS hA rfl rfl rfl (rnV (As := [.int x2]) (ci := 8) (q0 := 6) X [6, 7] hK hP hD rfl rfl rfl rfl (c_X9_mark l D cI cZ cR hr12) (cwV 1 hts gX6_tabulate_X9_mark rfl rfl rfl (by decide +kernel) ⟨Nat.le_of_ble_eq_true rfl, Nat.le_of_ble_eq_true rfl⟩) rfl hl.1 rfl (Nat.le_of_ble_eq_true rfl) dX6_tabulate_56) (fun H locs hP hD hS => ?_)
          have hP : va_P D vwCl (wd_X6_tabulate cI cZ cR a_p1 a_p1_weight a_p1_membersOf a_t a_t_code a_t_stack a_t_table a_t_table_bits a_t_table_trade p1_in p1_all t_codes t_table_in t_table_fresh t_table_tradeSought p1_membersOf_r p1_weight_r t_code_r (r8.2) r11) H := hP
          have hD : va_D A (wd_X6_tabulate cI cZ cR a_p1 a_p1_weight a_p1_membersOf a_t a_t_code a_t_stack a_t_table a_t_table_bits a_t_table_trade p1_in p1_all t_codes t_table_in t_table_fresh t_table_tradeSought p1_membersOf_r p1_weight_r t_code_r (r8.2) r11) := hD
          refine lv_iinc (v := (x2 + (1 : Int32))) (lv' := [(2, .int (x2 + (1 : Int32))), (0, .ref a_t), (1, .ref a_p1)]) hx hb dX6_tabulate_59 hl (k := 2) rfl rfl (by decide) rfl (fun ls hl => ?_)
          refine lv_goto (tgt := 24) hx hb dX6_tabulate_62 (by decide) ?_
          exact ih (x2 + (1 : Int32)) (r8.2) t_table_fresh t_table_in t_table_tradeSought r11 hf _ _ hP hD hS _ (lv_sub hl [1, 2, 0] rfl)
set_option maxHeartbeats 4000000 in
set_option maxRecDepth 100000 in
theorem c_X6_tabulate (l : Launch) (D : va_G) (cI cZ cR : ClassId) {a_p1 a_p1_weight a_p1_membersOf a_t a_t_code a_t_stack a_t_table a_t_table_bits a_t_table_trade : Nat} {p1_in : Int32} {p1_all : Int32} {t_codes : Int32} {t_table_in : Int32} {t_table_fresh : Int32} {t_table_tradeSought : Int32} {p1_membersOf_r : Nat → Int32} {p1_weight_r : Nat → Int32} {t_code_r : Nat → Int32} {t_stack_r : Nat → Int32} {t_table_bits_r : Nat → Int32} {sz : Nat} {out : (Nat → Int32) × Int32 × Int32 × Int32 × (Nat → Int32)} (hf : F_X6_tabulate p1_all p1_in p1_membersOf_r p1_weight_r t_codes t_code_r t_stack_r t_table_fresh t_table_in t_table_tradeSought t_table_bits_r = some out) : CV l yX6_tabulate wsX6_tabulate ({ frames := 3, cells := 0, slots := 0, locals := 71 } : Room) D cI cZ cR [.ref a_t, .ref a_p1] (wd_X6_tabulate cI cZ cR a_p1 a_p1_weight a_p1_membersOf a_t a_t_code a_t_stack a_t_table a_t_table_bits a_t_table_trade p1_in p1_all t_codes t_table_in t_table_fresh t_table_tradeSought p1_membersOf_r p1_weight_r t_code_r t_stack_r t_table_bits_r) sz (wd_X6_tabulate cI cZ cR a_p1 a_p1_weight a_p1_membersOf a_t a_t_code a_t_stack a_t_table a_t_table_bits a_t_table_trade p1_in p1_all t_codes (out.2.2.1) (out.2.1) (out.2.2.2.1) p1_membersOf_r p1_weight_r t_code_r (out.1) (out.2.2.2.2)) := by
  refine met_of (Qf := fun A => qv D cI cZ cR A (wd_X6_tabulate cI cZ cR a_p1 a_p1_weight a_p1_membersOf a_t a_t_code a_t_stack a_t_table a_t_table_bits a_t_table_trade p1_in p1_all t_codes (out.2.2.1) (out.2.1) (out.2.2.2.1) p1_membersOf_r p1_weight_r t_code_r (out.1) (out.2.2.2.2))) RX6 (by decide +kernel) rfl rfl (Nat.le_of_ble_eq_true rfl) ?_
  intro p e s m below meth c A X hK hA hP hD hS ls hl
  have hl : lv_has ls 3 [(0, .ref a_t), (1, .ref a_p1)] := hl
  obtain ⟨hx, hb, hml, hr, hown, hts, hlocks, hN⟩ := id X
  unfold F_X6_tabulate at hf
  refine lv_aload_n hx hb dX6_tabulate_0 rfl (lv_at hl 0 rfl) ?_
  refine va_get (D := D) (ci := 6) (v := .ref a_t_table) (C := RX6) (T := TX6) (N := 4) hx hb hts in_X6_tabulate_X6 hown hK hP 1 rfl rfl 2 (by decide) (hts (.fieldLink RX6 23 "DivisionHall$Rule" "table" "LDivisionHall$Table;") (by decide +kernel)) (fun _ h9 => h9) rfl dX6_tabulate_1 ?_
  refine va_getN (D := D) (ci := 8) (v := .int t_table_fresh) (C := RX9) (T := TX9) (N := 5) hx hb hts in_X6_tabulate_X9 hown hK hP 6 rfl rfl 3 (by decide) (va_Nw.use rfl (hN.1 ("DivisionHall$Rule", 39, "DivisionHall$Table", "fresh", "Z", "DivisionHall") (by decide +kernel))) (fun _ h9 => h9) rfl dX6_tabulate_4 ?_
  refine lv_if_eq (tgt := 11) hx hb dX6_tabulate_7 (by decide) (fun c1 => ?_) (fun c1 => ?_)
  · have hf := ipos c1 hf
    refine lv_aload_n hx hb dX6_tabulate_11 rfl (lv_at hl 0 rfl) ?_
    refine va_get (D := D) (ci := 6) (v := .ref a_t_table) (C := RX6) (T := TX6) (N := 4) hx hb hts in_X6_tabulate_X6 hown hK hP 1 rfl rfl 2 (by decide) (hts (.fieldLink RX6 23 "DivisionHall$Rule" "table" "LDivisionHall$Table;") (by decide +kernel)) (fun _ h9 => h9) rfl dX6_tabulate_12 ?_
    refine lv_aload_n hx hb dX6_tabulate_15 rfl (lv_at hl 1 rfl) ?_
    refine va_getN (D := D) (ci := 7) (v := .int p1_in) (C := RX7) (T := TX7) (N := 4) hx hb hts in_X6_tabulate_X7 hown hK hP 0 rfl rfl 2 (by decide) (va_Nw.use rfl (hN.1 ("DivisionHall$Rule", 68, "DivisionHall$Seats", "in", "I", "DivisionHall") (by decide +kernel))) (fun _ h9 => h9) rfl dX6_tabulate_16 ?_
    obtain ⟨r2, hr3, hf⟩ := bnd hf
    refine wcallv (D := D) (cI := cI) (cZ := cZ) (cR := cR) (wc := (wd_X9_clear cI cZ cR a_t_table a_t_table_bits a_t_table_trade t_table_in t_table_fresh t_table_tradeSought t_table_bits_r)) (w' := (wd_X9_clear cI cZ cR a_t_table a_t_table_bits a_t_table_trade (r2.1) t_table_fresh (r2.2.1) (r2.2.2))) [6, 7] hP hD hS hA rfl rfl rfl (rnV (As := [.int p1_in]) (ci := 8) (q0 := 6) X [6, 7] hK hP hD rfl rfl rfl rfl (c_X9_clear l D cI cZ cR hr3) (cwV 1 hts gX6_tabulate_X9_clear rfl rfl rfl (by decide +kernel) ⟨Nat.le_of_ble_eq_true rfl, Nat.le_of_ble_eq_true rfl⟩) rfl hl.1 rfl (Nat.le_of_ble_eq_true rfl) dX6_tabulate_19) (fun H locs hP hD hS => ?_)
    have hP : va_P D vwCl (wd_X6_tabulate cI cZ cR a_p1 a_p1_weight a_p1_membersOf a_t a_t_code a_t_stack a_t_table a_t_table_bits a_t_table_trade p1_in p1_all t_codes (r2.1) t_table_fresh (r2.2.1) p1_membersOf_r p1_weight_r t_code_r t_stack_r (r2.2.2)) H := hP
    have hD : va_D A (wd_X6_tabulate cI cZ cR a_p1 a_p1_weight a_p1_membersOf a_t a_t_code a_t_stack a_t_table a_t_table_bits a_t_table_trade p1_in p1_all t_codes (r2.1) t_table_fresh (r2.2.1) p1_membersOf_r p1_weight_r t_code_r t_stack_r (r2.2.2)) := hD
    refine lv_iconst (v := (0 : Int32)) hx hb dX6_tabulate_22 (by decide) ?_
    refine lv_istore_n (lv' := [(2, .int (0 : Int32)), (0, .ref a_t), (1, .ref a_p1)]) hx hb dX6_tabulate_23 rfl hl (by decide) rfl (fun ls hl => ?_)
    exact w_X6_tabulate_24 X hK hA _ (0 : Int32) t_stack_r t_table_fresh (r2.1) (r2.2.1) (r2.2.2) hf _ _ hP hD hS _ (lv_sub hl [1, 2, 0] rfl)
  · have hf := ineg c1 hf
    cases hf
    exact retv X hK hP hD hS dX6_tabulate_10
