section LAWCASES
variable {p : Program} {l : Launch} {e : Env} {s : State} {m : MethodId} {below : List Frame} {meth : Method} {c : Code} {H : Heap} {locs : List Loc} {D : va_G} {cI cZ cR : ClassId} {b L : Nat} {xs : Nat → Int32} {adK adV ad : Nat → Nat} {I : Nat → Int32} {R : Nat → Nat → Int32} {J : Nat → Int32} {Q : Nat → Nat → Int32} {ls : Array Slot} {i : Nat}
set_option maxHeartbeats 4000000 in
set_option maxRecDepth 100000 in
theorem cs_rule_0 (X : cx p s m #[Value.ref b] meth c code 4 ret RL lw_tbl) (hK : va_K D vwCl (ty3 cI cZ cR) s) (hX : va_X b L xs s s.heap) (hbl : b < s.heap.size) (hi : i + 6 ≤ L) (hL : L ≤ 3072) (hSW : SW adK adV (lA s) s s.heap) (hI : Inv I R J Q) (hP : va_P D vwCl (wX cI cZ cR ad I R ++ wM cI cZ cR ad J Q) H) (hD : va_D (lA s) (wX cI cZ cR ad I R ++ wM cI cZ cR ad J Q)) (hS : va_S (lA s) s.heap H locs) (hl : lv_has ls 4 [(0, .ref b), (1, .ref (ad 0)), (2, .ref (ad 70)), (3, .int (nI i))]) (hs1 : vp_in (xs (nI i + 1).toNatClampNeg) 4 → ((xs (nI i + 1).toNatClampNeg)).toNatClampNeg = 0) (hs2 : ∀ q, q < 4 → (xs (nI i + 1).toNatClampNeg) = nI q → q = 0) (back : Back p l e s m below meth c b D cI cZ cR ad ls) : LW p l e s m below meth c b H locs 403 ls [] := by
  obtain ⟨hx, hb, hml, hr, hown, hts, hlocks, hN⟩ := id X
  have hbA : ¬ lA s b := Nat.not_le.mpr hbl
  have h_1 : vp_in (nI i + 1) L := sin_ok (k := 1) hi hL (by decide)
  obtain ⟨o1, h1, o2, h2, he, hI2⟩ := st_rule_0 hI (xs (nI i + 1).toNatClampNeg) hs2
  refine lv_aload_n hx hb dL_law_403 rfl (lv_at hl 1 rfl) ?_
  refine lv_aload_n hx hb dL_law_404 rfl (lv_at hl 0 rfl) ?_
  refine lv_iload_n hx hb dL_law_405 rfl (lv_at hl 3 rfl) ?_
  refine lv_iconst (v := (1 : Int32)) hx hb dL_law_406 (by decide) ?_
  refine lv_iadd hx hb dL_law_407 ?_
  refine va_sld hx hb hX hbl hbA hS h_1 dL_law_408 ?_
  refine lx_rule_0 X hK hP hD hS hSW hs1 h1 hl.1 dL_law_409 (fun H locs hP hD hS => ?_)
  refine lv_aload_n hx hb dL_law_412 rfl (lv_at hl 2 rfl) ?_
  refine lv_aload_n hx hb dL_law_413 rfl (lv_at hl 0 rfl) ?_
  refine lv_iload_n hx hb dL_law_414 rfl (lv_at hl 3 rfl) ?_
  refine lv_iconst (v := (1 : Int32)) hx hb dL_law_415 (by decide) ?_
  refine lv_iadd hx hb dL_law_416 ?_
  refine va_sld hx hb hX hbl hbA hS h_1 dL_law_417 ?_
  refine lm_rule X hK hP hD hS h2 hl.1 dL_law_418 (fun H locs hP hD hS => ?_)
  refine lv_icmp_eq (tgt := 1199) hx hb dL_law_421 (by decide) (fun _ => ?_) (fun c9 => absurd he c9)
  exact back _ _ _ _ _ _ hI2 hP hD hS
set_option maxHeartbeats 4000000 in
set_option maxRecDepth 100000 in
theorem cs_rule_1 (X : cx p s m #[Value.ref b] meth c code 4 ret RL lw_tbl) (hK : va_K D vwCl (ty3 cI cZ cR) s) (hX : va_X b L xs s s.heap) (hbl : b < s.heap.size) (hi : i + 6 ≤ L) (hL : L ≤ 3072) (hSW : SW adK adV (lA s) s s.heap) (hI : Inv I R J Q) (hP : va_P D vwCl (wX cI cZ cR ad I R ++ wM cI cZ cR ad J Q) H) (hD : va_D (lA s) (wX cI cZ cR ad I R ++ wM cI cZ cR ad J Q)) (hS : va_S (lA s) s.heap H locs) (hl : lv_has ls 4 [(0, .ref b), (1, .ref (ad 0)), (2, .ref (ad 70)), (3, .int (nI i))]) (hs1 : vp_in (xs (nI i + 1).toNatClampNeg) 4 → ((xs (nI i + 1).toNatClampNeg)).toNatClampNeg = 1) (hs2 : ∀ q, q < 4 → (xs (nI i + 1).toNatClampNeg) = nI q → q = 1) (back : Back p l e s m below meth c b D cI cZ cR ad ls) : LW p l e s m below meth c b H locs 403 ls [] := by
  obtain ⟨hx, hb, hml, hr, hown, hts, hlocks, hN⟩ := id X
  have hbA : ¬ lA s b := Nat.not_le.mpr hbl
  have h_1 : vp_in (nI i + 1) L := sin_ok (k := 1) hi hL (by decide)
  obtain ⟨o1, h1, o2, h2, he, hI2⟩ := st_rule_1 hI (xs (nI i + 1).toNatClampNeg) hs2
  refine lv_aload_n hx hb dL_law_403 rfl (lv_at hl 1 rfl) ?_
  refine lv_aload_n hx hb dL_law_404 rfl (lv_at hl 0 rfl) ?_
  refine lv_iload_n hx hb dL_law_405 rfl (lv_at hl 3 rfl) ?_
  refine lv_iconst (v := (1 : Int32)) hx hb dL_law_406 (by decide) ?_
  refine lv_iadd hx hb dL_law_407 ?_
  refine va_sld hx hb hX hbl hbA hS h_1 dL_law_408 ?_
  refine lx_rule_1 X hK hP hD hS hSW hs1 h1 hl.1 dL_law_409 (fun H locs hP hD hS => ?_)
  refine lv_aload_n hx hb dL_law_412 rfl (lv_at hl 2 rfl) ?_
  refine lv_aload_n hx hb dL_law_413 rfl (lv_at hl 0 rfl) ?_
  refine lv_iload_n hx hb dL_law_414 rfl (lv_at hl 3 rfl) ?_
  refine lv_iconst (v := (1 : Int32)) hx hb dL_law_415 (by decide) ?_
  refine lv_iadd hx hb dL_law_416 ?_
  refine va_sld hx hb hX hbl hbA hS h_1 dL_law_417 ?_
  refine lm_rule X hK hP hD hS h2 hl.1 dL_law_418 (fun H locs hP hD hS => ?_)
  refine lv_icmp_eq (tgt := 1199) hx hb dL_law_421 (by decide) (fun _ => ?_) (fun c9 => absurd he c9)
  exact back _ _ _ _ _ _ hI2 hP hD hS
set_option maxHeartbeats 4000000 in
set_option maxRecDepth 100000 in
theorem cs_rule_2 (X : cx p s m #[Value.ref b] meth c code 4 ret RL lw_tbl) (hK : va_K D vwCl (ty3 cI cZ cR) s) (hX : va_X b L xs s s.heap) (hbl : b < s.heap.size) (hi : i + 6 ≤ L) (hL : L ≤ 3072) (hSW : SW adK adV (lA s) s s.heap) (hI : Inv I R J Q) (hP : va_P D vwCl (wX cI cZ cR ad I R ++ wM cI cZ cR ad J Q) H) (hD : va_D (lA s) (wX cI cZ cR ad I R ++ wM cI cZ cR ad J Q)) (hS : va_S (lA s) s.heap H locs) (hl : lv_has ls 4 [(0, .ref b), (1, .ref (ad 0)), (2, .ref (ad 70)), (3, .int (nI i))]) (hs1 : vp_in (xs (nI i + 1).toNatClampNeg) 4 → ((xs (nI i + 1).toNatClampNeg)).toNatClampNeg = 2) (hs2 : ∀ q, q < 4 → (xs (nI i + 1).toNatClampNeg) = nI q → q = 2) (back : Back p l e s m below meth c b D cI cZ cR ad ls) : LW p l e s m below meth c b H locs 403 ls [] := by
  obtain ⟨hx, hb, hml, hr, hown, hts, hlocks, hN⟩ := id X
  have hbA : ¬ lA s b := Nat.not_le.mpr hbl
  have h_1 : vp_in (nI i + 1) L := sin_ok (k := 1) hi hL (by decide)
  obtain ⟨o1, h1, o2, h2, he, hI2⟩ := st_rule_2 hI (xs (nI i + 1).toNatClampNeg) hs2
  refine lv_aload_n hx hb dL_law_403 rfl (lv_at hl 1 rfl) ?_
  refine lv_aload_n hx hb dL_law_404 rfl (lv_at hl 0 rfl) ?_
  refine lv_iload_n hx hb dL_law_405 rfl (lv_at hl 3 rfl) ?_
  refine lv_iconst (v := (1 : Int32)) hx hb dL_law_406 (by decide) ?_
  refine lv_iadd hx hb dL_law_407 ?_
  refine va_sld hx hb hX hbl hbA hS h_1 dL_law_408 ?_
  refine lx_rule_2 X hK hP hD hS hSW hs1 h1 hl.1 dL_law_409 (fun H locs hP hD hS => ?_)
  refine lv_aload_n hx hb dL_law_412 rfl (lv_at hl 2 rfl) ?_
  refine lv_aload_n hx hb dL_law_413 rfl (lv_at hl 0 rfl) ?_
  refine lv_iload_n hx hb dL_law_414 rfl (lv_at hl 3 rfl) ?_
  refine lv_iconst (v := (1 : Int32)) hx hb dL_law_415 (by decide) ?_
  refine lv_iadd hx hb dL_law_416 ?_
  refine va_sld hx hb hX hbl hbA hS h_1 dL_law_417 ?_
  refine lm_rule X hK hP hD hS h2 hl.1 dL_law_418 (fun H locs hP hD hS => ?_)
  refine lv_icmp_eq (tgt := 1199) hx hb dL_law_421 (by decide) (fun _ => ?_) (fun c9 => absurd he c9)
  exact back _ _ _ _ _ _ hI2 hP hD hS
set_option maxHeartbeats 4000000 in
set_option maxRecDepth 100000 in
theorem cs_rule_3 (X : cx p s m #[Value.ref b] meth c code 4 ret RL lw_tbl) (hK : va_K D vwCl (ty3 cI cZ cR) s) (hX : va_X b L xs s s.heap) (hbl : b < s.heap.size) (hi : i + 6 ≤ L) (hL : L ≤ 3072) (hSW : SW adK adV (lA s) s s.heap) (hI : Inv I R J Q) (hP : va_P D vwCl (wX cI cZ cR ad I R ++ wM cI cZ cR ad J Q) H) (hD : va_D (lA s) (wX cI cZ cR ad I R ++ wM cI cZ cR ad J Q)) (hS : va_S (lA s) s.heap H locs) (hl : lv_has ls 4 [(0, .ref b), (1, .ref (ad 0)), (2, .ref (ad 70)), (3, .int (nI i))]) (hs1 : vp_in (xs (nI i + 1).toNatClampNeg) 4 → ((xs (nI i + 1).toNatClampNeg)).toNatClampNeg = 3) (hs2 : ∀ q, q < 4 → (xs (nI i + 1).toNatClampNeg) = nI q → q = 3) (back : Back p l e s m below meth c b D cI cZ cR ad ls) : LW p l e s m below meth c b H locs 403 ls [] := by
  obtain ⟨hx, hb, hml, hr, hown, hts, hlocks, hN⟩ := id X
  have hbA : ¬ lA s b := Nat.not_le.mpr hbl
  have h_1 : vp_in (nI i + 1) L := sin_ok (k := 1) hi hL (by decide)
  obtain ⟨o1, h1, o2, h2, he, hI2⟩ := st_rule_3 hI (xs (nI i + 1).toNatClampNeg) hs2
  refine lv_aload_n hx hb dL_law_403 rfl (lv_at hl 1 rfl) ?_
  refine lv_aload_n hx hb dL_law_404 rfl (lv_at hl 0 rfl) ?_
  refine lv_iload_n hx hb dL_law_405 rfl (lv_at hl 3 rfl) ?_
  refine lv_iconst (v := (1 : Int32)) hx hb dL_law_406 (by decide) ?_
  refine lv_iadd hx hb dL_law_407 ?_
  refine va_sld hx hb hX hbl hbA hS h_1 dL_law_408 ?_
  refine lx_rule_3 X hK hP hD hS hSW hs1 h1 hl.1 dL_law_409 (fun H locs hP hD hS => ?_)
  refine lv_aload_n hx hb dL_law_412 rfl (lv_at hl 2 rfl) ?_
  refine lv_aload_n hx hb dL_law_413 rfl (lv_at hl 0 rfl) ?_
  refine lv_iload_n hx hb dL_law_414 rfl (lv_at hl 3 rfl) ?_
  refine lv_iconst (v := (1 : Int32)) hx hb dL_law_415 (by decide) ?_
  refine lv_iadd hx hb dL_law_416 ?_
  refine va_sld hx hb hX hbl hbA hS h_1 dL_law_417 ?_
  refine lm_rule X hK hP hD hS h2 hl.1 dL_law_418 (fun H locs hP hD hS => ?_)
  refine lv_icmp_eq (tgt := 1199) hx hb dL_law_421 (by decide) (fun _ => ?_) (fun c9 => absurd he c9)
  exact back _ _ _ _ _ _ hI2 hP hD hS
set_option maxHeartbeats 4000000 in
set_option maxRecDepth 100000 in
theorem cs_fault (X : cx p s m #[Value.ref b] meth c code 4 ret RL lw_tbl) (hK : va_K D vwCl (ty3 cI cZ cR) s) (hX : va_X b L xs s s.heap) (hbl : b < s.heap.size) (hi : i + 6 ≤ L) (hL : L ≤ 3072) (hI : Inv I R J Q) (hP : va_P D vwCl (wX cI cZ cR ad I R ++ wM cI cZ cR ad J Q) H) (hD : va_D (lA s) (wX cI cZ cR ad I R ++ wM cI cZ cR ad J Q)) (hS : va_S (lA s) s.heap H locs) (hl : lv_has ls 4 [(0, .ref b), (1, .ref (ad 0)), (2, .ref (ad 70)), (3, .int (nI i))]) (back : Back p l e s m below meth c b D cI cZ cR ad ls) : LW p l e s m below meth c b H locs 426 ls [] := by
  obtain ⟨hx, hb, hml, hr, hown, hts, hlocks, hN⟩ := id X
  have hbA : ¬ lA s b := Nat.not_le.mpr hbl
  have h_1 : vp_in (nI i + 1) L := sin_ok (k := 1) hi hL (by decide)
  obtain ⟨o1, h1, o2, h2, he, hI2⟩ := st_fault hI (xs (nI i + 1).toNatClampNeg)
  refine lv_aload_n hx hb dL_law_426 rfl (lv_at hl 1 rfl) ?_
  refine lv_aload_n hx hb dL_law_427 rfl (lv_at hl 0 rfl) ?_
  refine lv_iload_n hx hb dL_law_428 rfl (lv_at hl 3 rfl) ?_
  refine lv_iconst (v := (1 : Int32)) hx hb dL_law_429 (by decide) ?_
  refine lv_iadd hx hb dL_law_430 ?_
  refine va_sld hx hb hX hbl hbA hS h_1 dL_law_431 ?_
  refine lx_fault X hK hP hD hS h1 hl.1 dL_law_432 (fun H locs hP hD hS => ?_)
  refine lv_aload_n hx hb dL_law_435 rfl (lv_at hl 2 rfl) ?_
  refine lv_aload_n hx hb dL_law_436 rfl (lv_at hl 0 rfl) ?_
  refine lv_iload_n hx hb dL_law_437 rfl (lv_at hl 3 rfl) ?_
  refine lv_iconst (v := (1 : Int32)) hx hb dL_law_438 (by decide) ?_
  refine lv_iadd hx hb dL_law_439 ?_
  refine va_sld hx hb hX hbl hbA hS h_1 dL_law_440 ?_
  refine lm_fault X hK hP hD hS h2 hl.1 dL_law_441 (fun H locs hP hD hS => ?_)
  refine lv_icmp_eq (tgt := 1199) hx hb dL_law_444 (by decide) (fun _ => ?_) (fun c9 => absurd he c9)
  exact back _ _ _ _ _ _ hI2 hP hD hS
set_option maxHeartbeats 4000000 in
set_option maxRecDepth 100000 in
theorem cs_carries_0 (X : cx p s m #[Value.ref b] meth c code 4 ret RL lw_tbl) (hK : va_K D vwCl (ty3 cI cZ cR) s) (hX : va_X b L xs s s.heap) (hbl : b < s.heap.size) (hi : i + 6 ≤ L) (hL : L ≤ 3072) (hI : Inv I R J Q) (hP : va_P D vwCl (wX cI cZ cR ad I R ++ wM cI cZ cR ad J Q) H) (hD : va_D (lA s) (wX cI cZ cR ad I R ++ wM cI cZ cR ad J Q)) (hS : va_S (lA s) s.heap H locs) (hl : lv_has ls 4 [(0, .ref b), (1, .ref (ad 0)), (2, .ref (ad 70)), (3, .int (nI i))]) (hs1 : vp_in (xs (nI i + 1).toNatClampNeg) 4 → ((xs (nI i + 1).toNatClampNeg)).toNatClampNeg = 0) (hs2 : ∀ q, q < 4 → (xs (nI i + 1).toNatClampNeg) = nI q → q = 0) (back : Back p l e s m below meth c b D cI cZ cR ad ls) : LW p l e s m below meth c b H locs 449 ls [] := by
  obtain ⟨hx, hb, hml, hr, hown, hts, hlocks, hN⟩ := id X
  have hbA : ¬ lA s b := Nat.not_le.mpr hbl
  have h_1 : vp_in (nI i + 1) L := sin_ok (k := 1) hi hL (by decide)
  have h_2 : vp_in (nI i + 2) L := sin_ok (k := 2) hi hL (by decide)
  obtain ⟨o1, h1, o2, h2, he, hI2⟩ := st_carries_0 hI (xs (nI i + 1).toNatClampNeg) (xs (nI i + 2).toNatClampNeg) hs2
  refine lv_aload_n hx hb dL_law_449 rfl (lv_at hl 1 rfl) ?_
  refine lv_aload_n hx hb dL_law_450 rfl (lv_at hl 0 rfl) ?_
  refine lv_iload_n hx hb dL_law_451 rfl (lv_at hl 3 rfl) ?_
  refine lv_iconst (v := (1 : Int32)) hx hb dL_law_452 (by decide) ?_
  refine lv_iadd hx hb dL_law_453 ?_
  refine va_sld hx hb hX hbl hbA hS h_1 dL_law_454 ?_
  refine lv_aload_n hx hb dL_law_455 rfl (lv_at hl 0 rfl) ?_
  refine lv_iload_n hx hb dL_law_456 rfl (lv_at hl 3 rfl) ?_
  refine lv_iconst (v := (2 : Int32)) hx hb dL_law_457 (by decide) ?_
  refine lv_iadd hx hb dL_law_458 ?_
  refine va_sld hx hb hX hbl hbA hS h_2 dL_law_459 ?_
  refine lx_carries_0 X hK hP hD hS hs1 h1 hl.1 dL_law_460 (fun H locs hP hD hS => ?_)
  refine lv_aload_n hx hb dL_law_463 rfl (lv_at hl 2 rfl) ?_
  refine lv_aload_n hx hb dL_law_464 rfl (lv_at hl 0 rfl) ?_
  refine lv_iload_n hx hb dL_law_465 rfl (lv_at hl 3 rfl) ?_
  refine lv_iconst (v := (1 : Int32)) hx hb dL_law_466 (by decide) ?_
  refine lv_iadd hx hb dL_law_467 ?_
  refine va_sld hx hb hX hbl hbA hS h_1 dL_law_468 ?_
  refine lv_aload_n hx hb dL_law_469 rfl (lv_at hl 0 rfl) ?_
  refine lv_iload_n hx hb dL_law_470 rfl (lv_at hl 3 rfl) ?_
  refine lv_iconst (v := (2 : Int32)) hx hb dL_law_471 (by decide) ?_
  refine lv_iadd hx hb dL_law_472 ?_
  refine va_sld hx hb hX hbl hbA hS h_2 dL_law_473 ?_
  refine lm_carries X hK hP hD hS h2 hl.1 dL_law_474 (fun H locs hP hD hS => ?_)
  refine lv_icmp_eq (tgt := 1199) hx hb dL_law_477 (by decide) (fun _ => ?_) (fun c9 => absurd he c9)
  exact back _ _ _ _ _ _ hI2 hP hD hS
set_option maxHeartbeats 4000000 in
set_option maxRecDepth 100000 in
theorem cs_carries_1 (X : cx p s m #[Value.ref b] meth c code 4 ret RL lw_tbl) (hK : va_K D vwCl (ty3 cI cZ cR) s) (hX : va_X b L xs s s.heap) (hbl : b < s.heap.size) (hi : i + 6 ≤ L) (hL : L ≤ 3072) (hI : Inv I R J Q) (hP : va_P D vwCl (wX cI cZ cR ad I R ++ wM cI cZ cR ad J Q) H) (hD : va_D (lA s) (wX cI cZ cR ad I R ++ wM cI cZ cR ad J Q)) (hS : va_S (lA s) s.heap H locs) (hl : lv_has ls 4 [(0, .ref b), (1, .ref (ad 0)), (2, .ref (ad 70)), (3, .int (nI i))]) (hs1 : vp_in (xs (nI i + 1).toNatClampNeg) 4 → ((xs (nI i + 1).toNatClampNeg)).toNatClampNeg = 1) (hs2 : ∀ q, q < 4 → (xs (nI i + 1).toNatClampNeg) = nI q → q = 1) (back : Back p l e s m below meth c b D cI cZ cR ad ls) : LW p l e s m below meth c b H locs 449 ls [] := by
  obtain ⟨hx, hb, hml, hr, hown, hts, hlocks, hN⟩ := id X
  have hbA : ¬ lA s b := Nat.not_le.mpr hbl
  have h_1 : vp_in (nI i + 1) L := sin_ok (k := 1) hi hL (by decide)
  have h_2 : vp_in (nI i + 2) L := sin_ok (k := 2) hi hL (by decide)
  obtain ⟨o1, h1, o2, h2, he, hI2⟩ := st_carries_1 hI (xs (nI i + 1).toNatClampNeg) (xs (nI i + 2).toNatClampNeg) hs2
  refine lv_aload_n hx hb dL_law_449 rfl (lv_at hl 1 rfl) ?_
  refine lv_aload_n hx hb dL_law_450 rfl (lv_at hl 0 rfl) ?_
  refine lv_iload_n hx hb dL_law_451 rfl (lv_at hl 3 rfl) ?_
  refine lv_iconst (v := (1 : Int32)) hx hb dL_law_452 (by decide) ?_
  refine lv_iadd hx hb dL_law_453 ?_
  refine va_sld hx hb hX hbl hbA hS h_1 dL_law_454 ?_
  refine lv_aload_n hx hb dL_law_455 rfl (lv_at hl 0 rfl) ?_
  refine lv_iload_n hx hb dL_law_456 rfl (lv_at hl 3 rfl) ?_
  refine lv_iconst (v := (2 : Int32)) hx hb dL_law_457 (by decide) ?_
  refine lv_iadd hx hb dL_law_458 ?_
  refine va_sld hx hb hX hbl hbA hS h_2 dL_law_459 ?_
  refine lx_carries_1 X hK hP hD hS hs1 h1 hl.1 dL_law_460 (fun H locs hP hD hS => ?_)
  refine lv_aload_n hx hb dL_law_463 rfl (lv_at hl 2 rfl) ?_
  refine lv_aload_n hx hb dL_law_464 rfl (lv_at hl 0 rfl) ?_
  refine lv_iload_n hx hb dL_law_465 rfl (lv_at hl 3 rfl) ?_
  refine lv_iconst (v := (1 : Int32)) hx hb dL_law_466 (by decide) ?_
  refine lv_iadd hx hb dL_law_467 ?_
  refine va_sld hx hb hX hbl hbA hS h_1 dL_law_468 ?_
  refine lv_aload_n hx hb dL_law_469 rfl (lv_at hl 0 rfl) ?_
  refine lv_iload_n hx hb dL_law_470 rfl (lv_at hl 3 rfl) ?_
  refine lv_iconst (v := (2 : Int32)) hx hb dL_law_471 (by decide) ?_
  refine lv_iadd hx hb dL_law_472 ?_
  refine va_sld hx hb hX hbl hbA hS h_2 dL_law_473 ?_
  refine lm_carries X hK hP hD hS h2 hl.1 dL_law_474 (fun H locs hP hD hS => ?_)
  refine lv_icmp_eq (tgt := 1199) hx hb dL_law_477 (by decide) (fun _ => ?_) (fun c9 => absurd he c9)
  exact back _ _ _ _ _ _ hI2 hP hD hS
set_option maxHeartbeats 4000000 in
set_option maxRecDepth 100000 in
theorem cs_carries_2 (X : cx p s m #[Value.ref b] meth c code 4 ret RL lw_tbl) (hK : va_K D vwCl (ty3 cI cZ cR) s) (hX : va_X b L xs s s.heap) (hbl : b < s.heap.size) (hi : i + 6 ≤ L) (hL : L ≤ 3072) (hI : Inv I R J Q) (hP : va_P D vwCl (wX cI cZ cR ad I R ++ wM cI cZ cR ad J Q) H) (hD : va_D (lA s) (wX cI cZ cR ad I R ++ wM cI cZ cR ad J Q)) (hS : va_S (lA s) s.heap H locs) (hl : lv_has ls 4 [(0, .ref b), (1, .ref (ad 0)), (2, .ref (ad 70)), (3, .int (nI i))]) (hs1 : vp_in (xs (nI i + 1).toNatClampNeg) 4 → ((xs (nI i + 1).toNatClampNeg)).toNatClampNeg = 2) (hs2 : ∀ q, q < 4 → (xs (nI i + 1).toNatClampNeg) = nI q → q = 2) (back : Back p l e s m below meth c b D cI cZ cR ad ls) : LW p l e s m below meth c b H locs 449 ls [] := by
  obtain ⟨hx, hb, hml, hr, hown, hts, hlocks, hN⟩ := id X
  have hbA : ¬ lA s b := Nat.not_le.mpr hbl
  have h_1 : vp_in (nI i + 1) L := sin_ok (k := 1) hi hL (by decide)
  have h_2 : vp_in (nI i + 2) L := sin_ok (k := 2) hi hL (by decide)
  obtain ⟨o1, h1, o2, h2, he, hI2⟩ := st_carries_2 hI (xs (nI i + 1).toNatClampNeg) (xs (nI i + 2).toNatClampNeg) hs2
  refine lv_aload_n hx hb dL_law_449 rfl (lv_at hl 1 rfl) ?_
  refine lv_aload_n hx hb dL_law_450 rfl (lv_at hl 0 rfl) ?_
  refine lv_iload_n hx hb dL_law_451 rfl (lv_at hl 3 rfl) ?_
  refine lv_iconst (v := (1 : Int32)) hx hb dL_law_452 (by decide) ?_
  refine lv_iadd hx hb dL_law_453 ?_
  refine va_sld hx hb hX hbl hbA hS h_1 dL_law_454 ?_
  refine lv_aload_n hx hb dL_law_455 rfl (lv_at hl 0 rfl) ?_
  refine lv_iload_n hx hb dL_law_456 rfl (lv_at hl 3 rfl) ?_
  refine lv_iconst (v := (2 : Int32)) hx hb dL_law_457 (by decide) ?_
  refine lv_iadd hx hb dL_law_458 ?_
  refine va_sld hx hb hX hbl hbA hS h_2 dL_law_459 ?_
  refine lx_carries_2 X hK hP hD hS hs1 h1 hl.1 dL_law_460 (fun H locs hP hD hS => ?_)
  refine lv_aload_n hx hb dL_law_463 rfl (lv_at hl 2 rfl) ?_
  refine lv_aload_n hx hb dL_law_464 rfl (lv_at hl 0 rfl) ?_
  refine lv_iload_n hx hb dL_law_465 rfl (lv_at hl 3 rfl) ?_
  refine lv_iconst (v := (1 : Int32)) hx hb dL_law_466 (by decide) ?_
  refine lv_iadd hx hb dL_law_467 ?_
  refine va_sld hx hb hX hbl hbA hS h_1 dL_law_468 ?_
  refine lv_aload_n hx hb dL_law_469 rfl (lv_at hl 0 rfl) ?_
  refine lv_iload_n hx hb dL_law_470 rfl (lv_at hl 3 rfl) ?_
  refine lv_iconst (v := (2 : Int32)) hx hb dL_law_471 (by decide) ?_
  refine lv_iadd hx hb dL_law_472 ?_
  refine va_sld hx hb hX hbl hbA hS h_2 dL_law_473 ?_
  refine lm_carries X hK hP hD hS h2 hl.1 dL_law_474 (fun H locs hP hD hS => ?_)
  refine lv_icmp_eq (tgt := 1199) hx hb dL_law_477 (by decide) (fun _ => ?_) (fun c9 => absurd he c9)
  exact back _ _ _ _ _ _ hI2 hP hD hS
set_option maxHeartbeats 4000000 in
set_option maxRecDepth 100000 in
theorem cs_carries_3 (X : cx p s m #[Value.ref b] meth c code 4 ret RL lw_tbl) (hK : va_K D vwCl (ty3 cI cZ cR) s) (hX : va_X b L xs s s.heap) (hbl : b < s.heap.size) (hi : i + 6 ≤ L) (hL : L ≤ 3072) (hI : Inv I R J Q) (hP : va_P D vwCl (wX cI cZ cR ad I R ++ wM cI cZ cR ad J Q) H) (hD : va_D (lA s) (wX cI cZ cR ad I R ++ wM cI cZ cR ad J Q)) (hS : va_S (lA s) s.heap H locs) (hl : lv_has ls 4 [(0, .ref b), (1, .ref (ad 0)), (2, .ref (ad 70)), (3, .int (nI i))]) (hs1 : vp_in (xs (nI i + 1).toNatClampNeg) 4 → ((xs (nI i + 1).toNatClampNeg)).toNatClampNeg = 3) (hs2 : ∀ q, q < 4 → (xs (nI i + 1).toNatClampNeg) = nI q → q = 3) (back : Back p l e s m below meth c b D cI cZ cR ad ls) : LW p l e s m below meth c b H locs 449 ls [] := by
  obtain ⟨hx, hb, hml, hr, hown, hts, hlocks, hN⟩ := id X
  have hbA : ¬ lA s b := Nat.not_le.mpr hbl
  have h_1 : vp_in (nI i + 1) L := sin_ok (k := 1) hi hL (by decide)
  have h_2 : vp_in (nI i + 2) L := sin_ok (k := 2) hi hL (by decide)
  obtain ⟨o1, h1, o2, h2, he, hI2⟩ := st_carries_3 hI (xs (nI i + 1).toNatClampNeg) (xs (nI i + 2).toNatClampNeg) hs2
  refine lv_aload_n hx hb dL_law_449 rfl (lv_at hl 1 rfl) ?_
  refine lv_aload_n hx hb dL_law_450 rfl (lv_at hl 0 rfl) ?_
  refine lv_iload_n hx hb dL_law_451 rfl (lv_at hl 3 rfl) ?_
  refine lv_iconst (v := (1 : Int32)) hx hb dL_law_452 (by decide) ?_
  refine lv_iadd hx hb dL_law_453 ?_
  refine va_sld hx hb hX hbl hbA hS h_1 dL_law_454 ?_
  refine lv_aload_n hx hb dL_law_455 rfl (lv_at hl 0 rfl) ?_
  refine lv_iload_n hx hb dL_law_456 rfl (lv_at hl 3 rfl) ?_
  refine lv_iconst (v := (2 : Int32)) hx hb dL_law_457 (by decide) ?_
  refine lv_iadd hx hb dL_law_458 ?_
  refine va_sld hx hb hX hbl hbA hS h_2 dL_law_459 ?_
  refine lx_carries_3 X hK hP hD hS hs1 h1 hl.1 dL_law_460 (fun H locs hP hD hS => ?_)
  refine lv_aload_n hx hb dL_law_463 rfl (lv_at hl 2 rfl) ?_
  refine lv_aload_n hx hb dL_law_464 rfl (lv_at hl 0 rfl) ?_
  refine lv_iload_n hx hb dL_law_465 rfl (lv_at hl 3 rfl) ?_
  refine lv_iconst (v := (1 : Int32)) hx hb dL_law_466 (by decide) ?_
  refine lv_iadd hx hb dL_law_467 ?_
  refine va_sld hx hb hX hbl hbA hS h_1 dL_law_468 ?_
  refine lv_aload_n hx hb dL_law_469 rfl (lv_at hl 0 rfl) ?_
  refine lv_iload_n hx hb dL_law_470 rfl (lv_at hl 3 rfl) ?_
  refine lv_iconst (v := (2 : Int32)) hx hb dL_law_471 (by decide) ?_
  refine lv_iadd hx hb dL_law_472 ?_
  refine va_sld hx hb hX hbl hbA hS h_2 dL_law_473 ?_
  refine lm_carries X hK hP hD hS h2 hl.1 dL_law_474 (fun H locs hP hD hS => ?_)
  refine lv_icmp_eq (tgt := 1199) hx hb dL_law_477 (by decide) (fun _ => ?_) (fun c9 => absurd he c9)
  exact back _ _ _ _ _ _ hI2 hP hD hS
end LAWCASES
