section LAWCASES
variable {p : Program} {l : Launch} {e : Env} {s : State} {m : MethodId} {below : List Frame} {meth : Method} {c : Code} {H : Heap} {locs : List Loc} {D : va_G} {cI cZ cR : ClassId} {b L : Nat} {xs : Nat → Int32} {adK adV ad : Nat → Nat} {I : Nat → Int32} {R : Nat → Nat → Int32} {J : Nat → Int32} {Q : Nat → Nat → Int32} {ls : Array Slot} {i : Nat}
set_option maxHeartbeats 4000000 in
set_option maxRecDepth 100000 in
theorem cs_odd_0 (X : cx p s m #[Value.ref b] meth c code 4 ret RL lw_tbl) (hK : va_K D vwCl (ty3 cI cZ cR) s) (hX : va_X b L xs s s.heap) (hbl : b < s.heap.size) (hi : i + 6 ≤ L) (hL : L ≤ 3072) (hI : Inv I R J Q) (hP : va_P D vwCl (wX cI cZ cR ad I R ++ wM cI cZ cR ad J Q) H) (hD : va_D (lA s) (wX cI cZ cR ad I R ++ wM cI cZ cR ad J Q)) (hS : va_S (lA s) s.heap H locs) (hl : lv_has ls 4 [(0, .ref b), (1, .ref (ad 0)), (2, .ref (ad 70)), (3, .int (nI i))]) (hs1 : vp_in (xs (nI i + 1).toNatClampNeg) 4 → ((xs (nI i + 1).toNatClampNeg)).toNatClampNeg = 0) (hs2 : ∀ q, q < 4 → (xs (nI i + 1).toNatClampNeg) = nI q → q = 0) (back : Back p l e s m below meth c b D cI cZ cR ad ls) : LW p l e s m below meth c b H locs 602 ls [] := by
  obtain ⟨hx, hb, hml, hr, hown, hts, hlocks, hN⟩ := id X
  have hbA : ¬ lA s b := Nat.not_le.mpr hbl
  have h_1 : vp_in (nI i + 1) L := sin_ok (k := 1) hi hL (by decide)
  have h_2 : vp_in (nI i + 2) L := sin_ok (k := 2) hi hL (by decide)
  obtain ⟨o1, h1, o2, h2, he, hI2⟩ := st_odd_0 hI (xs (nI i + 1).toNatClampNeg) (xs (nI i + 2).toNatClampNeg) hs2
  refine lv_aload_n hx hb dL_law_602 rfl (lv_at hl 1 rfl) ?_
  refine lv_aload_n hx hb dL_law_603 rfl (lv_at hl 0 rfl) ?_
  refine lv_iload_n hx hb dL_law_604 rfl (lv_at hl 3 rfl) ?_
  refine lv_iconst (v := (1 : Int32)) hx hb dL_law_605 (by decide) ?_
  refine lv_iadd hx hb dL_law_606 ?_
  refine va_sld hx hb hX hbl hbA hS h_1 dL_law_607 ?_
  refine lv_aload_n hx hb dL_law_608 rfl (lv_at hl 0 rfl) ?_
  refine lv_iload_n hx hb dL_law_609 rfl (lv_at hl 3 rfl) ?_
  refine lv_iconst (v := (2 : Int32)) hx hb dL_law_610 (by decide) ?_
  refine lv_iadd hx hb dL_law_611 ?_
  refine va_sld hx hb hX hbl hbA hS h_2 dL_law_612 ?_
  refine lx_odd_0 X hK hP hD hS hs1 h1 hl.1 dL_law_613 (fun H locs hP hD hS => ?_)
  refine lv_aload_n hx hb dL_law_616 rfl (lv_at hl 2 rfl) ?_
  refine lv_aload_n hx hb dL_law_617 rfl (lv_at hl 0 rfl) ?_
  refine lv_iload_n hx hb dL_law_618 rfl (lv_at hl 3 rfl) ?_
  refine lv_iconst (v := (1 : Int32)) hx hb dL_law_619 (by decide) ?_
  refine lv_iadd hx hb dL_law_620 ?_
  refine va_sld hx hb hX hbl hbA hS h_1 dL_law_621 ?_
  refine lv_aload_n hx hb dL_law_622 rfl (lv_at hl 0 rfl) ?_
  refine lv_iload_n hx hb dL_law_623 rfl (lv_at hl 3 rfl) ?_
  refine lv_iconst (v := (2 : Int32)) hx hb dL_law_624 (by decide) ?_
  refine lv_iadd hx hb dL_law_625 ?_
  refine va_sld hx hb hX hbl hbA hS h_2 dL_law_626 ?_
  refine lm_odd X hK hP hD hS h2 hl.1 dL_law_627 (fun H locs hP hD hS => ?_)
  refine lv_icmp_eq (tgt := 1199) hx hb dL_law_630 (by decide) (fun _ => ?_) (fun c9 => absurd he c9)
  exact back _ _ _ _ _ _ hI2 hP hD hS
set_option maxHeartbeats 4000000 in
set_option maxRecDepth 100000 in
theorem cs_odd_1 (X : cx p s m #[Value.ref b] meth c code 4 ret RL lw_tbl) (hK : va_K D vwCl (ty3 cI cZ cR) s) (hX : va_X b L xs s s.heap) (hbl : b < s.heap.size) (hi : i + 6 ≤ L) (hL : L ≤ 3072) (hI : Inv I R J Q) (hP : va_P D vwCl (wX cI cZ cR ad I R ++ wM cI cZ cR ad J Q) H) (hD : va_D (lA s) (wX cI cZ cR ad I R ++ wM cI cZ cR ad J Q)) (hS : va_S (lA s) s.heap H locs) (hl : lv_has ls 4 [(0, .ref b), (1, .ref (ad 0)), (2, .ref (ad 70)), (3, .int (nI i))]) (hs1 : vp_in (xs (nI i + 1).toNatClampNeg) 4 → ((xs (nI i + 1).toNatClampNeg)).toNatClampNeg = 1) (hs2 : ∀ q, q < 4 → (xs (nI i + 1).toNatClampNeg) = nI q → q = 1) (back : Back p l e s m below meth c b D cI cZ cR ad ls) : LW p l e s m below meth c b H locs 602 ls [] := by
  obtain ⟨hx, hb, hml, hr, hown, hts, hlocks, hN⟩ := id X
  have hbA : ¬ lA s b := Nat.not_le.mpr hbl
  have h_1 : vp_in (nI i + 1) L := sin_ok (k := 1) hi hL (by decide)
  have h_2 : vp_in (nI i + 2) L := sin_ok (k := 2) hi hL (by decide)
  obtain ⟨o1, h1, o2, h2, he, hI2⟩ := st_odd_1 hI (xs (nI i + 1).toNatClampNeg) (xs (nI i + 2).toNatClampNeg) hs2
  refine lv_aload_n hx hb dL_law_602 rfl (lv_at hl 1 rfl) ?_
  refine lv_aload_n hx hb dL_law_603 rfl (lv_at hl 0 rfl) ?_
  refine lv_iload_n hx hb dL_law_604 rfl (lv_at hl 3 rfl) ?_
  refine lv_iconst (v := (1 : Int32)) hx hb dL_law_605 (by decide) ?_
  refine lv_iadd hx hb dL_law_606 ?_
  refine va_sld hx hb hX hbl hbA hS h_1 dL_law_607 ?_
  refine lv_aload_n hx hb dL_law_608 rfl (lv_at hl 0 rfl) ?_
  refine lv_iload_n hx hb dL_law_609 rfl (lv_at hl 3 rfl) ?_
  refine lv_iconst (v := (2 : Int32)) hx hb dL_law_610 (by decide) ?_
  refine lv_iadd hx hb dL_law_611 ?_
  refine va_sld hx hb hX hbl hbA hS h_2 dL_law_612 ?_
  refine lx_odd_1 X hK hP hD hS hs1 h1 hl.1 dL_law_613 (fun H locs hP hD hS => ?_)
  refine lv_aload_n hx hb dL_law_616 rfl (lv_at hl 2 rfl) ?_
  refine lv_aload_n hx hb dL_law_617 rfl (lv_at hl 0 rfl) ?_
  refine lv_iload_n hx hb dL_law_618 rfl (lv_at hl 3 rfl) ?_
  refine lv_iconst (v := (1 : Int32)) hx hb dL_law_619 (by decide) ?_
  refine lv_iadd hx hb dL_law_620 ?_
  refine va_sld hx hb hX hbl hbA hS h_1 dL_law_621 ?_
  refine lv_aload_n hx hb dL_law_622 rfl (lv_at hl 0 rfl) ?_
  refine lv_iload_n hx hb dL_law_623 rfl (lv_at hl 3 rfl) ?_
  refine lv_iconst (v := (2 : Int32)) hx hb dL_law_624 (by decide) ?_
  refine lv_iadd hx hb dL_law_625 ?_
  refine va_sld hx hb hX hbl hbA hS h_2 dL_law_626 ?_
  refine lm_odd X hK hP hD hS h2 hl.1 dL_law_627 (fun H locs hP hD hS => ?_)
  refine lv_icmp_eq (tgt := 1199) hx hb dL_law_630 (by decide) (fun _ => ?_) (fun c9 => absurd he c9)
  exact back _ _ _ _ _ _ hI2 hP hD hS
set_option maxHeartbeats 4000000 in
set_option maxRecDepth 100000 in
theorem cs_odd_2 (X : cx p s m #[Value.ref b] meth c code 4 ret RL lw_tbl) (hK : va_K D vwCl (ty3 cI cZ cR) s) (hX : va_X b L xs s s.heap) (hbl : b < s.heap.size) (hi : i + 6 ≤ L) (hL : L ≤ 3072) (hI : Inv I R J Q) (hP : va_P D vwCl (wX cI cZ cR ad I R ++ wM cI cZ cR ad J Q) H) (hD : va_D (lA s) (wX cI cZ cR ad I R ++ wM cI cZ cR ad J Q)) (hS : va_S (lA s) s.heap H locs) (hl : lv_has ls 4 [(0, .ref b), (1, .ref (ad 0)), (2, .ref (ad 70)), (3, .int (nI i))]) (hs1 : vp_in (xs (nI i + 1).toNatClampNeg) 4 → ((xs (nI i + 1).toNatClampNeg)).toNatClampNeg = 2) (hs2 : ∀ q, q < 4 → (xs (nI i + 1).toNatClampNeg) = nI q → q = 2) (back : Back p l e s m below meth c b D cI cZ cR ad ls) : LW p l e s m below meth c b H locs 602 ls [] := by
  obtain ⟨hx, hb, hml, hr, hown, hts, hlocks, hN⟩ := id X
  have hbA : ¬ lA s b := Nat.not_le.mpr hbl
  have h_1 : vp_in (nI i + 1) L := sin_ok (k := 1) hi hL (by decide)
  have h_2 : vp_in (nI i + 2) L := sin_ok (k := 2) hi hL (by decide)
  obtain ⟨o1, h1, o2, h2, he, hI2⟩ := st_odd_2 hI (xs (nI i + 1).toNatClampNeg) (xs (nI i + 2).toNatClampNeg) hs2
  refine lv_aload_n hx hb dL_law_602 rfl (lv_at hl 1 rfl) ?_
  refine lv_aload_n hx hb dL_law_603 rfl (lv_at hl 0 rfl) ?_
  refine lv_iload_n hx hb dL_law_604 rfl (lv_at hl 3 rfl) ?_
  refine lv_iconst (v := (1 : Int32)) hx hb dL_law_605 (by decide) ?_
  refine lv_iadd hx hb dL_law_606 ?_
  refine va_sld hx hb hX hbl hbA hS h_1 dL_law_607 ?_
  refine lv_aload_n hx hb dL_law_608 rfl (lv_at hl 0 rfl) ?_
  refine lv_iload_n hx hb dL_law_609 rfl (lv_at hl 3 rfl) ?_
  refine lv_iconst (v := (2 : Int32)) hx hb dL_law_610 (by decide) ?_
  refine lv_iadd hx hb dL_law_611 ?_
  refine va_sld hx hb hX hbl hbA hS h_2 dL_law_612 ?_
  refine lx_odd_2 X hK hP hD hS hs1 h1 hl.1 dL_law_613 (fun H locs hP hD hS => ?_)
  refine lv_aload_n hx hb dL_law_616 rfl (lv_at hl 2 rfl) ?_
  refine lv_aload_n hx hb dL_law_617 rfl (lv_at hl 0 rfl) ?_
  refine lv_iload_n hx hb dL_law_618 rfl (lv_at hl 3 rfl) ?_
  refine lv_iconst (v := (1 : Int32)) hx hb dL_law_619 (by decide) ?_
  refine lv_iadd hx hb dL_law_620 ?_
  refine va_sld hx hb hX hbl hbA hS h_1 dL_law_621 ?_
  refine lv_aload_n hx hb dL_law_622 rfl (lv_at hl 0 rfl) ?_
  refine lv_iload_n hx hb dL_law_623 rfl (lv_at hl 3 rfl) ?_
  refine lv_iconst (v := (2 : Int32)) hx hb dL_law_624 (by decide) ?_
  refine lv_iadd hx hb dL_law_625 ?_
  refine va_sld hx hb hX hbl hbA hS h_2 dL_law_626 ?_
  refine lm_odd X hK hP hD hS h2 hl.1 dL_law_627 (fun H locs hP hD hS => ?_)
  refine lv_icmp_eq (tgt := 1199) hx hb dL_law_630 (by decide) (fun _ => ?_) (fun c9 => absurd he c9)
  exact back _ _ _ _ _ _ hI2 hP hD hS
set_option maxHeartbeats 4000000 in
set_option maxRecDepth 100000 in
theorem cs_odd_3 (X : cx p s m #[Value.ref b] meth c code 4 ret RL lw_tbl) (hK : va_K D vwCl (ty3 cI cZ cR) s) (hX : va_X b L xs s s.heap) (hbl : b < s.heap.size) (hi : i + 6 ≤ L) (hL : L ≤ 3072) (hI : Inv I R J Q) (hP : va_P D vwCl (wX cI cZ cR ad I R ++ wM cI cZ cR ad J Q) H) (hD : va_D (lA s) (wX cI cZ cR ad I R ++ wM cI cZ cR ad J Q)) (hS : va_S (lA s) s.heap H locs) (hl : lv_has ls 4 [(0, .ref b), (1, .ref (ad 0)), (2, .ref (ad 70)), (3, .int (nI i))]) (hs1 : vp_in (xs (nI i + 1).toNatClampNeg) 4 → ((xs (nI i + 1).toNatClampNeg)).toNatClampNeg = 3) (hs2 : ∀ q, q < 4 → (xs (nI i + 1).toNatClampNeg) = nI q → q = 3) (back : Back p l e s m below meth c b D cI cZ cR ad ls) : LW p l e s m below meth c b H locs 602 ls [] := by
  obtain ⟨hx, hb, hml, hr, hown, hts, hlocks, hN⟩ := id X
  have hbA : ¬ lA s b := Nat.not_le.mpr hbl
  have h_1 : vp_in (nI i + 1) L := sin_ok (k := 1) hi hL (by decide)
  have h_2 : vp_in (nI i + 2) L := sin_ok (k := 2) hi hL (by decide)
  obtain ⟨o1, h1, o2, h2, he, hI2⟩ := st_odd_3 hI (xs (nI i + 1).toNatClampNeg) (xs (nI i + 2).toNatClampNeg) hs2
  refine lv_aload_n hx hb dL_law_602 rfl (lv_at hl 1 rfl) ?_
  refine lv_aload_n hx hb dL_law_603 rfl (lv_at hl 0 rfl) ?_
  refine lv_iload_n hx hb dL_law_604 rfl (lv_at hl 3 rfl) ?_
  refine lv_iconst (v := (1 : Int32)) hx hb dL_law_605 (by decide) ?_
  refine lv_iadd hx hb dL_law_606 ?_
  refine va_sld hx hb hX hbl hbA hS h_1 dL_law_607 ?_
  refine lv_aload_n hx hb dL_law_608 rfl (lv_at hl 0 rfl) ?_
  refine lv_iload_n hx hb dL_law_609 rfl (lv_at hl 3 rfl) ?_
  refine lv_iconst (v := (2 : Int32)) hx hb dL_law_610 (by decide) ?_
  refine lv_iadd hx hb dL_law_611 ?_
  refine va_sld hx hb hX hbl hbA hS h_2 dL_law_612 ?_
  refine lx_odd_3 X hK hP hD hS hs1 h1 hl.1 dL_law_613 (fun H locs hP hD hS => ?_)
  refine lv_aload_n hx hb dL_law_616 rfl (lv_at hl 2 rfl) ?_
  refine lv_aload_n hx hb dL_law_617 rfl (lv_at hl 0 rfl) ?_
  refine lv_iload_n hx hb dL_law_618 rfl (lv_at hl 3 rfl) ?_
  refine lv_iconst (v := (1 : Int32)) hx hb dL_law_619 (by decide) ?_
  refine lv_iadd hx hb dL_law_620 ?_
  refine va_sld hx hb hX hbl hbA hS h_1 dL_law_621 ?_
  refine lv_aload_n hx hb dL_law_622 rfl (lv_at hl 0 rfl) ?_
  refine lv_iload_n hx hb dL_law_623 rfl (lv_at hl 3 rfl) ?_
  refine lv_iconst (v := (2 : Int32)) hx hb dL_law_624 (by decide) ?_
  refine lv_iadd hx hb dL_law_625 ?_
  refine va_sld hx hb hX hbl hbA hS h_2 dL_law_626 ?_
  refine lm_odd X hK hP hD hS h2 hl.1 dL_law_627 (fun H locs hP hD hS => ?_)
  refine lv_icmp_eq (tgt := 1199) hx hb dL_law_630 (by decide) (fun _ => ?_) (fun c9 => absurd he c9)
  exact back _ _ _ _ _ _ hI2 hP hD hS
set_option maxHeartbeats 4000000 in
set_option maxRecDepth 100000 in
theorem cs_worth_0 (X : cx p s m #[Value.ref b] meth c code 4 ret RL lw_tbl) (hK : va_K D vwCl (ty3 cI cZ cR) s) (hX : va_X b L xs s s.heap) (hbl : b < s.heap.size) (hi : i + 6 ≤ L) (hL : L ≤ 3072) (hI : Inv I R J Q) (hP : va_P D vwCl (wX cI cZ cR ad I R ++ wM cI cZ cR ad J Q) H) (hD : va_D (lA s) (wX cI cZ cR ad I R ++ wM cI cZ cR ad J Q)) (hS : va_S (lA s) s.heap H locs) (hl : lv_has ls 4 [(0, .ref b), (1, .ref (ad 0)), (2, .ref (ad 70)), (3, .int (nI i))]) (hs1 : vp_in (xs (nI i + 1).toNatClampNeg) 4 → ((xs (nI i + 1).toNatClampNeg)).toNatClampNeg = 0) (hs2 : ∀ q, q < 4 → (xs (nI i + 1).toNatClampNeg) = nI q → q = 0) (back : Back p l e s m below meth c b D cI cZ cR ad ls) : LW p l e s m below meth c b H locs 635 ls [] := by
  obtain ⟨hx, hb, hml, hr, hown, hts, hlocks, hN⟩ := id X
  have hbA : ¬ lA s b := Nat.not_le.mpr hbl
  have h_1 : vp_in (nI i + 1) L := sin_ok (k := 1) hi hL (by decide)
  have h_2 : vp_in (nI i + 2) L := sin_ok (k := 2) hi hL (by decide)
  have h_3 : vp_in (nI i + 3) L := sin_ok (k := 3) hi hL (by decide)
  obtain ⟨o1, h1, o2, h2, he, hI2⟩ := st_worth_0 hI (xs (nI i + 1).toNatClampNeg) (xs (nI i + 2).toNatClampNeg) (xs (nI i + 3).toNatClampNeg) hs2
  refine lv_aload_n hx hb dL_law_635 rfl (lv_at hl 1 rfl) ?_
  refine lv_aload_n hx hb dL_law_636 rfl (lv_at hl 0 rfl) ?_
  refine lv_iload_n hx hb dL_law_637 rfl (lv_at hl 3 rfl) ?_
  refine lv_iconst (v := (1 : Int32)) hx hb dL_law_638 (by decide) ?_
  refine lv_iadd hx hb dL_law_639 ?_
  refine va_sld hx hb hX hbl hbA hS h_1 dL_law_640 ?_
  refine lv_aload_n hx hb dL_law_641 rfl (lv_at hl 0 rfl) ?_
  refine lv_iload_n hx hb dL_law_642 rfl (lv_at hl 3 rfl) ?_
  refine lv_iconst (v := (2 : Int32)) hx hb dL_law_643 (by decide) ?_
  refine lv_iadd hx hb dL_law_644 ?_
  refine va_sld hx hb hX hbl hbA hS h_2 dL_law_645 ?_
  refine lv_aload_n hx hb dL_law_646 rfl (lv_at hl 0 rfl) ?_
  refine lv_iload_n hx hb dL_law_647 rfl (lv_at hl 3 rfl) ?_
  refine lv_iconst (v := (3 : Int32)) hx hb dL_law_648 (by decide) ?_
  refine lv_iadd hx hb dL_law_649 ?_
  refine va_sld hx hb hX hbl hbA hS h_3 dL_law_650 ?_
  refine lx_worth_0 X hK hP hD hS hs1 h1 hl.1 dL_law_651 (fun H locs hP hD hS => ?_)
  refine lv_aload_n hx hb dL_law_654 rfl (lv_at hl 2 rfl) ?_
  refine lv_aload_n hx hb dL_law_655 rfl (lv_at hl 0 rfl) ?_
  refine lv_iload_n hx hb dL_law_656 rfl (lv_at hl 3 rfl) ?_
  refine lv_iconst (v := (1 : Int32)) hx hb dL_law_657 (by decide) ?_
  refine lv_iadd hx hb dL_law_658 ?_
  refine va_sld hx hb hX hbl hbA hS h_1 dL_law_659 ?_
  refine lv_aload_n hx hb dL_law_660 rfl (lv_at hl 0 rfl) ?_
  refine lv_iload_n hx hb dL_law_661 rfl (lv_at hl 3 rfl) ?_
  refine lv_iconst (v := (2 : Int32)) hx hb dL_law_662 (by decide) ?_
  refine lv_iadd hx hb dL_law_663 ?_
  refine va_sld hx hb hX hbl hbA hS h_2 dL_law_664 ?_
  refine lv_aload_n hx hb dL_law_665 rfl (lv_at hl 0 rfl) ?_
  refine lv_iload_n hx hb dL_law_666 rfl (lv_at hl 3 rfl) ?_
  refine lv_iconst (v := (3 : Int32)) hx hb dL_law_667 (by decide) ?_
  refine lv_iadd hx hb dL_law_668 ?_
  refine va_sld hx hb hX hbl hbA hS h_3 dL_law_669 ?_
  refine lm_worth X hK hP hD hS h2 hl.1 dL_law_670 (fun H locs hP hD hS => ?_)
  refine lv_icmp_eq (tgt := 1199) hx hb dL_law_673 (by decide) (fun _ => ?_) (fun c9 => absurd he c9)
  exact back _ _ _ _ _ _ hI2 hP hD hS
set_option maxHeartbeats 4000000 in
set_option maxRecDepth 100000 in
theorem cs_worth_1 (X : cx p s m #[Value.ref b] meth c code 4 ret RL lw_tbl) (hK : va_K D vwCl (ty3 cI cZ cR) s) (hX : va_X b L xs s s.heap) (hbl : b < s.heap.size) (hi : i + 6 ≤ L) (hL : L ≤ 3072) (hI : Inv I R J Q) (hP : va_P D vwCl (wX cI cZ cR ad I R ++ wM cI cZ cR ad J Q) H) (hD : va_D (lA s) (wX cI cZ cR ad I R ++ wM cI cZ cR ad J Q)) (hS : va_S (lA s) s.heap H locs) (hl : lv_has ls 4 [(0, .ref b), (1, .ref (ad 0)), (2, .ref (ad 70)), (3, .int (nI i))]) (hs1 : vp_in (xs (nI i + 1).toNatClampNeg) 4 → ((xs (nI i + 1).toNatClampNeg)).toNatClampNeg = 1) (hs2 : ∀ q, q < 4 → (xs (nI i + 1).toNatClampNeg) = nI q → q = 1) (back : Back p l e s m below meth c b D cI cZ cR ad ls) : LW p l e s m below meth c b H locs 635 ls [] := by
  obtain ⟨hx, hb, hml, hr, hown, hts, hlocks, hN⟩ := id X
  have hbA : ¬ lA s b := Nat.not_le.mpr hbl
  have h_1 : vp_in (nI i + 1) L := sin_ok (k := 1) hi hL (by decide)
  have h_2 : vp_in (nI i + 2) L := sin_ok (k := 2) hi hL (by decide)
  have h_3 : vp_in (nI i + 3) L := sin_ok (k := 3) hi hL (by decide)
  obtain ⟨o1, h1, o2, h2, he, hI2⟩ := st_worth_1 hI (xs (nI i + 1).toNatClampNeg) (xs (nI i + 2).toNatClampNeg) (xs (nI i + 3).toNatClampNeg) hs2
  refine lv_aload_n hx hb dL_law_635 rfl (lv_at hl 1 rfl) ?_
  refine lv_aload_n hx hb dL_law_636 rfl (lv_at hl 0 rfl) ?_
  refine lv_iload_n hx hb dL_law_637 rfl (lv_at hl 3 rfl) ?_
  refine lv_iconst (v := (1 : Int32)) hx hb dL_law_638 (by decide) ?_
  refine lv_iadd hx hb dL_law_639 ?_
  refine va_sld hx hb hX hbl hbA hS h_1 dL_law_640 ?_
  refine lv_aload_n hx hb dL_law_641 rfl (lv_at hl 0 rfl) ?_
  refine lv_iload_n hx hb dL_law_642 rfl (lv_at hl 3 rfl) ?_
  refine lv_iconst (v := (2 : Int32)) hx hb dL_law_643 (by decide) ?_
  refine lv_iadd hx hb dL_law_644 ?_
  refine va_sld hx hb hX hbl hbA hS h_2 dL_law_645 ?_
  refine lv_aload_n hx hb dL_law_646 rfl (lv_at hl 0 rfl) ?_
  refine lv_iload_n hx hb dL_law_647 rfl (lv_at hl 3 rfl) ?_
  refine lv_iconst (v := (3 : Int32)) hx hb dL_law_648 (by decide) ?_
  refine lv_iadd hx hb dL_law_649 ?_
  refine va_sld hx hb hX hbl hbA hS h_3 dL_law_650 ?_
  refine lx_worth_1 X hK hP hD hS hs1 h1 hl.1 dL_law_651 (fun H locs hP hD hS => ?_)
  refine lv_aload_n hx hb dL_law_654 rfl (lv_at hl 2 rfl) ?_
  refine lv_aload_n hx hb dL_law_655 rfl (lv_at hl 0 rfl) ?_
  refine lv_iload_n hx hb dL_law_656 rfl (lv_at hl 3 rfl) ?_
  refine lv_iconst (v := (1 : Int32)) hx hb dL_law_657 (by decide) ?_
  refine lv_iadd hx hb dL_law_658 ?_
  refine va_sld hx hb hX hbl hbA hS h_1 dL_law_659 ?_
  refine lv_aload_n hx hb dL_law_660 rfl (lv_at hl 0 rfl) ?_
  refine lv_iload_n hx hb dL_law_661 rfl (lv_at hl 3 rfl) ?_
  refine lv_iconst (v := (2 : Int32)) hx hb dL_law_662 (by decide) ?_
  refine lv_iadd hx hb dL_law_663 ?_
  refine va_sld hx hb hX hbl hbA hS h_2 dL_law_664 ?_
  refine lv_aload_n hx hb dL_law_665 rfl (lv_at hl 0 rfl) ?_
  refine lv_iload_n hx hb dL_law_666 rfl (lv_at hl 3 rfl) ?_
  refine lv_iconst (v := (3 : Int32)) hx hb dL_law_667 (by decide) ?_
  refine lv_iadd hx hb dL_law_668 ?_
  refine va_sld hx hb hX hbl hbA hS h_3 dL_law_669 ?_
  refine lm_worth X hK hP hD hS h2 hl.1 dL_law_670 (fun H locs hP hD hS => ?_)
  refine lv_icmp_eq (tgt := 1199) hx hb dL_law_673 (by decide) (fun _ => ?_) (fun c9 => absurd he c9)
  exact back _ _ _ _ _ _ hI2 hP hD hS
set_option maxHeartbeats 4000000 in
set_option maxRecDepth 100000 in
theorem cs_worth_2 (X : cx p s m #[Value.ref b] meth c code 4 ret RL lw_tbl) (hK : va_K D vwCl (ty3 cI cZ cR) s) (hX : va_X b L xs s s.heap) (hbl : b < s.heap.size) (hi : i + 6 ≤ L) (hL : L ≤ 3072) (hI : Inv I R J Q) (hP : va_P D vwCl (wX cI cZ cR ad I R ++ wM cI cZ cR ad J Q) H) (hD : va_D (lA s) (wX cI cZ cR ad I R ++ wM cI cZ cR ad J Q)) (hS : va_S (lA s) s.heap H locs) (hl : lv_has ls 4 [(0, .ref b), (1, .ref (ad 0)), (2, .ref (ad 70)), (3, .int (nI i))]) (hs1 : vp_in (xs (nI i + 1).toNatClampNeg) 4 → ((xs (nI i + 1).toNatClampNeg)).toNatClampNeg = 2) (hs2 : ∀ q, q < 4 → (xs (nI i + 1).toNatClampNeg) = nI q → q = 2) (back : Back p l e s m below meth c b D cI cZ cR ad ls) : LW p l e s m below meth c b H locs 635 ls [] := by
  obtain ⟨hx, hb, hml, hr, hown, hts, hlocks, hN⟩ := id X
  have hbA : ¬ lA s b := Nat.not_le.mpr hbl
  have h_1 : vp_in (nI i + 1) L := sin_ok (k := 1) hi hL (by decide)
  have h_2 : vp_in (nI i + 2) L := sin_ok (k := 2) hi hL (by decide)
  have h_3 : vp_in (nI i + 3) L := sin_ok (k := 3) hi hL (by decide)
  obtain ⟨o1, h1, o2, h2, he, hI2⟩ := st_worth_2 hI (xs (nI i + 1).toNatClampNeg) (xs (nI i + 2).toNatClampNeg) (xs (nI i + 3).toNatClampNeg) hs2
  refine lv_aload_n hx hb dL_law_635 rfl (lv_at hl 1 rfl) ?_
  refine lv_aload_n hx hb dL_law_636 rfl (lv_at hl 0 rfl) ?_
  refine lv_iload_n hx hb dL_law_637 rfl (lv_at hl 3 rfl) ?_
  refine lv_iconst (v := (1 : Int32)) hx hb dL_law_638 (by decide) ?_
  refine lv_iadd hx hb dL_law_639 ?_
  refine va_sld hx hb hX hbl hbA hS h_1 dL_law_640 ?_
  refine lv_aload_n hx hb dL_law_641 rfl (lv_at hl 0 rfl) ?_
  refine lv_iload_n hx hb dL_law_642 rfl (lv_at hl 3 rfl) ?_
  refine lv_iconst (v := (2 : Int32)) hx hb dL_law_643 (by decide) ?_
  refine lv_iadd hx hb dL_law_644 ?_
  refine va_sld hx hb hX hbl hbA hS h_2 dL_law_645 ?_
  refine lv_aload_n hx hb dL_law_646 rfl (lv_at hl 0 rfl) ?_
  refine lv_iload_n hx hb dL_law_647 rfl (lv_at hl 3 rfl) ?_
  refine lv_iconst (v := (3 : Int32)) hx hb dL_law_648 (by decide) ?_
  refine lv_iadd hx hb dL_law_649 ?_
  refine va_sld hx hb hX hbl hbA hS h_3 dL_law_650 ?_
  refine lx_worth_2 X hK hP hD hS hs1 h1 hl.1 dL_law_651 (fun H locs hP hD hS => ?_)
  refine lv_aload_n hx hb dL_law_654 rfl (lv_at hl 2 rfl) ?_
  refine lv_aload_n hx hb dL_law_655 rfl (lv_at hl 0 rfl) ?_
  refine lv_iload_n hx hb dL_law_656 rfl (lv_at hl 3 rfl) ?_
  refine lv_iconst (v := (1 : Int32)) hx hb dL_law_657 (by decide) ?_
  refine lv_iadd hx hb dL_law_658 ?_
  refine va_sld hx hb hX hbl hbA hS h_1 dL_law_659 ?_
  refine lv_aload_n hx hb dL_law_660 rfl (lv_at hl 0 rfl) ?_
  refine lv_iload_n hx hb dL_law_661 rfl (lv_at hl 3 rfl) ?_
  refine lv_iconst (v := (2 : Int32)) hx hb dL_law_662 (by decide) ?_
  refine lv_iadd hx hb dL_law_663 ?_
  refine va_sld hx hb hX hbl hbA hS h_2 dL_law_664 ?_
  refine lv_aload_n hx hb dL_law_665 rfl (lv_at hl 0 rfl) ?_
  refine lv_iload_n hx hb dL_law_666 rfl (lv_at hl 3 rfl) ?_
  refine lv_iconst (v := (3 : Int32)) hx hb dL_law_667 (by decide) ?_
  refine lv_iadd hx hb dL_law_668 ?_
  refine va_sld hx hb hX hbl hbA hS h_3 dL_law_669 ?_
  refine lm_worth X hK hP hD hS h2 hl.1 dL_law_670 (fun H locs hP hD hS => ?_)
  refine lv_icmp_eq (tgt := 1199) hx hb dL_law_673 (by decide) (fun _ => ?_) (fun c9 => absurd he c9)
  exact back _ _ _ _ _ _ hI2 hP hD hS
set_option maxHeartbeats 4000000 in
set_option maxRecDepth 100000 in
theorem cs_worth_3 (X : cx p s m #[Value.ref b] meth c code 4 ret RL lw_tbl) (hK : va_K D vwCl (ty3 cI cZ cR) s) (hX : va_X b L xs s s.heap) (hbl : b < s.heap.size) (hi : i + 6 ≤ L) (hL : L ≤ 3072) (hI : Inv I R J Q) (hP : va_P D vwCl (wX cI cZ cR ad I R ++ wM cI cZ cR ad J Q) H) (hD : va_D (lA s) (wX cI cZ cR ad I R ++ wM cI cZ cR ad J Q)) (hS : va_S (lA s) s.heap H locs) (hl : lv_has ls 4 [(0, .ref b), (1, .ref (ad 0)), (2, .ref (ad 70)), (3, .int (nI i))]) (hs1 : vp_in (xs (nI i + 1).toNatClampNeg) 4 → ((xs (nI i + 1).toNatClampNeg)).toNatClampNeg = 3) (hs2 : ∀ q, q < 4 → (xs (nI i + 1).toNatClampNeg) = nI q → q = 3) (back : Back p l e s m below meth c b D cI cZ cR ad ls) : LW p l e s m below meth c b H locs 635 ls [] := by
  obtain ⟨hx, hb, hml, hr, hown, hts, hlocks, hN⟩ := id X
  have hbA : ¬ lA s b := Nat.not_le.mpr hbl
  have h_1 : vp_in (nI i + 1) L := sin_ok (k := 1) hi hL (by decide)
  have h_2 : vp_in (nI i + 2) L := sin_ok (k := 2) hi hL (by decide)
  have h_3 : vp_in (nI i + 3) L := sin_ok (k := 3) hi hL (by decide)
  obtain ⟨o1, h1, o2, h2, he, hI2⟩ := st_worth_3 hI (xs (nI i + 1).toNatClampNeg) (xs (nI i + 2).toNatClampNeg) (xs (nI i + 3).toNatClampNeg) hs2
  refine lv_aload_n hx hb dL_law_635 rfl (lv_at hl 1 rfl) ?_
  refine lv_aload_n hx hb dL_law_636 rfl (lv_at hl 0 rfl) ?_
  refine lv_iload_n hx hb dL_law_637 rfl (lv_at hl 3 rfl) ?_
  refine lv_iconst (v := (1 : Int32)) hx hb dL_law_638 (by decide) ?_
  refine lv_iadd hx hb dL_law_639 ?_
  refine va_sld hx hb hX hbl hbA hS h_1 dL_law_640 ?_
  refine lv_aload_n hx hb dL_law_641 rfl (lv_at hl 0 rfl) ?_
  refine lv_iload_n hx hb dL_law_642 rfl (lv_at hl 3 rfl) ?_
  refine lv_iconst (v := (2 : Int32)) hx hb dL_law_643 (by decide) ?_
  refine lv_iadd hx hb dL_law_644 ?_
  refine va_sld hx hb hX hbl hbA hS h_2 dL_law_645 ?_
  refine lv_aload_n hx hb dL_law_646 rfl (lv_at hl 0 rfl) ?_
  refine lv_iload_n hx hb dL_law_647 rfl (lv_at hl 3 rfl) ?_
  refine lv_iconst (v := (3 : Int32)) hx hb dL_law_648 (by decide) ?_
  refine lv_iadd hx hb dL_law_649 ?_
  refine va_sld hx hb hX hbl hbA hS h_3 dL_law_650 ?_
  refine lx_worth_3 X hK hP hD hS hs1 h1 hl.1 dL_law_651 (fun H locs hP hD hS => ?_)
  refine lv_aload_n hx hb dL_law_654 rfl (lv_at hl 2 rfl) ?_
  refine lv_aload_n hx hb dL_law_655 rfl (lv_at hl 0 rfl) ?_
  refine lv_iload_n hx hb dL_law_656 rfl (lv_at hl 3 rfl) ?_
  refine lv_iconst (v := (1 : Int32)) hx hb dL_law_657 (by decide) ?_
  refine lv_iadd hx hb dL_law_658 ?_
  refine va_sld hx hb hX hbl hbA hS h_1 dL_law_659 ?_
  refine lv_aload_n hx hb dL_law_660 rfl (lv_at hl 0 rfl) ?_
  refine lv_iload_n hx hb dL_law_661 rfl (lv_at hl 3 rfl) ?_
  refine lv_iconst (v := (2 : Int32)) hx hb dL_law_662 (by decide) ?_
  refine lv_iadd hx hb dL_law_663 ?_
  refine va_sld hx hb hX hbl hbA hS h_2 dL_law_664 ?_
  refine lv_aload_n hx hb dL_law_665 rfl (lv_at hl 0 rfl) ?_
  refine lv_iload_n hx hb dL_law_666 rfl (lv_at hl 3 rfl) ?_
  refine lv_iconst (v := (3 : Int32)) hx hb dL_law_667 (by decide) ?_
  refine lv_iadd hx hb dL_law_668 ?_
  refine va_sld hx hb hX hbl hbA hS h_3 dL_law_669 ?_
  refine lm_worth X hK hP hD hS h2 hl.1 dL_law_670 (fun H locs hP hD hS => ?_)
  refine lv_icmp_eq (tgt := 1199) hx hb dL_law_673 (by decide) (fun _ => ?_) (fun c9 => absurd he c9)
  exact back _ _ _ _ _ _ hI2 hP hD hS
set_option maxHeartbeats 4000000 in
set_option maxRecDepth 100000 in
theorem cs_trade_0 (X : cx p s m #[Value.ref b] meth c code 4 ret RL lw_tbl) (hK : va_K D vwCl (ty3 cI cZ cR) s) (hX : va_X b L xs s s.heap) (hbl : b < s.heap.size) (hi : i + 6 ≤ L) (hL : L ≤ 3072) (hI : Inv I R J Q) (hP : va_P D vwCl (wX cI cZ cR ad I R ++ wM cI cZ cR ad J Q) H) (hD : va_D (lA s) (wX cI cZ cR ad I R ++ wM cI cZ cR ad J Q)) (hS : va_S (lA s) s.heap H locs) (hl : lv_has ls 4 [(0, .ref b), (1, .ref (ad 0)), (2, .ref (ad 70)), (3, .int (nI i))]) (hs1 : vp_in (xs (nI i + 1).toNatClampNeg) 4 → ((xs (nI i + 1).toNatClampNeg)).toNatClampNeg = 0) (hs2 : ∀ q, q < 4 → (xs (nI i + 1).toNatClampNeg) = nI q → q = 0) (back : Back p l e s m below meth c b D cI cZ cR ad ls) : LW p l e s m below meth c b H locs 678 ls [] := by
  obtain ⟨hx, hb, hml, hr, hown, hts, hlocks, hN⟩ := id X
  have hbA : ¬ lA s b := Nat.not_le.mpr hbl
  have h_1 : vp_in (nI i + 1) L := sin_ok (k := 1) hi hL (by decide)
  have h_2 : vp_in (nI i + 2) L := sin_ok (k := 2) hi hL (by decide)
  obtain ⟨o1, h1, o2, h2, he, hI2⟩ := st_trade_0 hI (xs (nI i + 1).toNatClampNeg) (xs (nI i + 2).toNatClampNeg) hs2
  refine lv_aload_n hx hb dL_law_678 rfl (lv_at hl 1 rfl) ?_
  refine lv_aload_n hx hb dL_law_679 rfl (lv_at hl 0 rfl) ?_
  refine lv_iload_n hx hb dL_law_680 rfl (lv_at hl 3 rfl) ?_
  refine lv_iconst (v := (1 : Int32)) hx hb dL_law_681 (by decide) ?_
  refine lv_iadd hx hb dL_law_682 ?_
  refine va_sld hx hb hX hbl hbA hS h_1 dL_law_683 ?_
  refine lv_aload_n hx hb dL_law_684 rfl (lv_at hl 0 rfl) ?_
  refine lv_iload_n hx hb dL_law_685 rfl (lv_at hl 3 rfl) ?_
  refine lv_iconst (v := (2 : Int32)) hx hb dL_law_686 (by decide) ?_
  refine lv_iadd hx hb dL_law_687 ?_
  refine va_sld hx hb hX hbl hbA hS h_2 dL_law_688 ?_
  refine lx_trade_0 X hK hP hD hS hs1 h1 hl.1 dL_law_689 (fun H locs hP hD hS => ?_)
  refine lv_aload_n hx hb dL_law_692 rfl (lv_at hl 2 rfl) ?_
  refine lv_aload_n hx hb dL_law_693 rfl (lv_at hl 0 rfl) ?_
  refine lv_iload_n hx hb dL_law_694 rfl (lv_at hl 3 rfl) ?_
  refine lv_iconst (v := (1 : Int32)) hx hb dL_law_695 (by decide) ?_
  refine lv_iadd hx hb dL_law_696 ?_
  refine va_sld hx hb hX hbl hbA hS h_1 dL_law_697 ?_
  refine lv_aload_n hx hb dL_law_698 rfl (lv_at hl 0 rfl) ?_
  refine lv_iload_n hx hb dL_law_699 rfl (lv_at hl 3 rfl) ?_
  refine lv_iconst (v := (2 : Int32)) hx hb dL_law_700 (by decide) ?_
  refine lv_iadd hx hb dL_law_701 ?_
  refine va_sld hx hb hX hbl hbA hS h_2 dL_law_702 ?_
  refine lm_trade X hK hP hD hS h2 hl.1 dL_law_703 (fun H locs hP hD hS => ?_)
  refine lv_icmp_eq (tgt := 1199) hx hb dL_law_706 (by decide) (fun _ => ?_) (fun c9 => absurd he c9)
  exact back _ _ _ _ _ _ hI2 hP hD hS
set_option maxHeartbeats 4000000 in
set_option maxRecDepth 100000 in
theorem cs_trade_1 (X : cx p s m #[Value.ref b] meth c code 4 ret RL lw_tbl) (hK : va_K D vwCl (ty3 cI cZ cR) s) (hX : va_X b L xs s s.heap) (hbl : b < s.heap.size) (hi : i + 6 ≤ L) (hL : L ≤ 3072) (hI : Inv I R J Q) (hP : va_P D vwCl (wX cI cZ cR ad I R ++ wM cI cZ cR ad J Q) H) (hD : va_D (lA s) (wX cI cZ cR ad I R ++ wM cI cZ cR ad J Q)) (hS : va_S (lA s) s.heap H locs) (hl : lv_has ls 4 [(0, .ref b), (1, .ref (ad 0)), (2, .ref (ad 70)), (3, .int (nI i))]) (hs1 : vp_in (xs (nI i + 1).toNatClampNeg) 4 → ((xs (nI i + 1).toNatClampNeg)).toNatClampNeg = 1) (hs2 : ∀ q, q < 4 → (xs (nI i + 1).toNatClampNeg) = nI q → q = 1) (back : Back p l e s m below meth c b D cI cZ cR ad ls) : LW p l e s m below meth c b H locs 678 ls [] := by
  obtain ⟨hx, hb, hml, hr, hown, hts, hlocks, hN⟩ := id X
  have hbA : ¬ lA s b := Nat.not_le.mpr hbl
  have h_1 : vp_in (nI i + 1) L := sin_ok (k := 1) hi hL (by decide)
  have h_2 : vp_in (nI i + 2) L := sin_ok (k := 2) hi hL (by decide)
  obtain ⟨o1, h1, o2, h2, he, hI2⟩ := st_trade_1 hI (xs (nI i + 1).toNatClampNeg) (xs (nI i + 2).toNatClampNeg) hs2
  refine lv_aload_n hx hb dL_law_678 rfl (lv_at hl 1 rfl) ?_
  refine lv_aload_n hx hb dL_law_679 rfl (lv_at hl 0 rfl) ?_
  refine lv_iload_n hx hb dL_law_680 rfl (lv_at hl 3 rfl) ?_
  refine lv_iconst (v := (1 : Int32)) hx hb dL_law_681 (by decide) ?_
  refine lv_iadd hx hb dL_law_682 ?_
  refine va_sld hx hb hX hbl hbA hS h_1 dL_law_683 ?_
  refine lv_aload_n hx hb dL_law_684 rfl (lv_at hl 0 rfl) ?_
  refine lv_iload_n hx hb dL_law_685 rfl (lv_at hl 3 rfl) ?_
  refine lv_iconst (v := (2 : Int32)) hx hb dL_law_686 (by decide) ?_
  refine lv_iadd hx hb dL_law_687 ?_
  refine va_sld hx hb hX hbl hbA hS h_2 dL_law_688 ?_
  refine lx_trade_1 X hK hP hD hS hs1 h1 hl.1 dL_law_689 (fun H locs hP hD hS => ?_)
  refine lv_aload_n hx hb dL_law_692 rfl (lv_at hl 2 rfl) ?_
  refine lv_aload_n hx hb dL_law_693 rfl (lv_at hl 0 rfl) ?_
  refine lv_iload_n hx hb dL_law_694 rfl (lv_at hl 3 rfl) ?_
  refine lv_iconst (v := (1 : Int32)) hx hb dL_law_695 (by decide) ?_
  refine lv_iadd hx hb dL_law_696 ?_
  refine va_sld hx hb hX hbl hbA hS h_1 dL_law_697 ?_
  refine lv_aload_n hx hb dL_law_698 rfl (lv_at hl 0 rfl) ?_
  refine lv_iload_n hx hb dL_law_699 rfl (lv_at hl 3 rfl) ?_
  refine lv_iconst (v := (2 : Int32)) hx hb dL_law_700 (by decide) ?_
  refine lv_iadd hx hb dL_law_701 ?_
  refine va_sld hx hb hX hbl hbA hS h_2 dL_law_702 ?_
  refine lm_trade X hK hP hD hS h2 hl.1 dL_law_703 (fun H locs hP hD hS => ?_)
  refine lv_icmp_eq (tgt := 1199) hx hb dL_law_706 (by decide) (fun _ => ?_) (fun c9 => absurd he c9)
  exact back _ _ _ _ _ _ hI2 hP hD hS
set_option maxHeartbeats 4000000 in
set_option maxRecDepth 100000 in
theorem cs_trade_2 (X : cx p s m #[Value.ref b] meth c code 4 ret RL lw_tbl) (hK : va_K D vwCl (ty3 cI cZ cR) s) (hX : va_X b L xs s s.heap) (hbl : b < s.heap.size) (hi : i + 6 ≤ L) (hL : L ≤ 3072) (hI : Inv I R J Q) (hP : va_P D vwCl (wX cI cZ cR ad I R ++ wM cI cZ cR ad J Q) H) (hD : va_D (lA s) (wX cI cZ cR ad I R ++ wM cI cZ cR ad J Q)) (hS : va_S (lA s) s.heap H locs) (hl : lv_has ls 4 [(0, .ref b), (1, .ref (ad 0)), (2, .ref (ad 70)), (3, .int (nI i))]) (hs1 : vp_in (xs (nI i + 1).toNatClampNeg) 4 → ((xs (nI i + 1).toNatClampNeg)).toNatClampNeg = 2) (hs2 : ∀ q, q < 4 → (xs (nI i + 1).toNatClampNeg) = nI q → q = 2) (back : Back p l e s m below meth c b D cI cZ cR ad ls) : LW p l e s m below meth c b H locs 678 ls [] := by
  obtain ⟨hx, hb, hml, hr, hown, hts, hlocks, hN⟩ := id X
  have hbA : ¬ lA s b := Nat.not_le.mpr hbl
  have h_1 : vp_in (nI i + 1) L := sin_ok (k := 1) hi hL (by decide)
  have h_2 : vp_in (nI i + 2) L := sin_ok (k := 2) hi hL (by decide)
  obtain ⟨o1, h1, o2, h2, he, hI2⟩ := st_trade_2 hI (xs (nI i + 1).toNatClampNeg) (xs (nI i + 2).toNatClampNeg) hs2
  refine lv_aload_n hx hb dL_law_678 rfl (lv_at hl 1 rfl) ?_
  refine lv_aload_n hx hb dL_law_679 rfl (lv_at hl 0 rfl) ?_
  refine lv_iload_n hx hb dL_law_680 rfl (lv_at hl 3 rfl) ?_
  refine lv_iconst (v := (1 : Int32)) hx hb dL_law_681 (by decide) ?_
  refine lv_iadd hx hb dL_law_682 ?_
  refine va_sld hx hb hX hbl hbA hS h_1 dL_law_683 ?_
  refine lv_aload_n hx hb dL_law_684 rfl (lv_at hl 0 rfl) ?_
  refine lv_iload_n hx hb dL_law_685 rfl (lv_at hl 3 rfl) ?_
  refine lv_iconst (v := (2 : Int32)) hx hb dL_law_686 (by decide) ?_
  refine lv_iadd hx hb dL_law_687 ?_
  refine va_sld hx hb hX hbl hbA hS h_2 dL_law_688 ?_
  refine lx_trade_2 X hK hP hD hS hs1 h1 hl.1 dL_law_689 (fun H locs hP hD hS => ?_)
  refine lv_aload_n hx hb dL_law_692 rfl (lv_at hl 2 rfl) ?_
  refine lv_aload_n hx hb dL_law_693 rfl (lv_at hl 0 rfl) ?_
  refine lv_iload_n hx hb dL_law_694 rfl (lv_at hl 3 rfl) ?_
  refine lv_iconst (v := (1 : Int32)) hx hb dL_law_695 (by decide) ?_
  refine lv_iadd hx hb dL_law_696 ?_
  refine va_sld hx hb hX hbl hbA hS h_1 dL_law_697 ?_
  refine lv_aload_n hx hb dL_law_698 rfl (lv_at hl 0 rfl) ?_
  refine lv_iload_n hx hb dL_law_699 rfl (lv_at hl 3 rfl) ?_
  refine lv_iconst (v := (2 : Int32)) hx hb dL_law_700 (by decide) ?_
  refine lv_iadd hx hb dL_law_701 ?_
  refine va_sld hx hb hX hbl hbA hS h_2 dL_law_702 ?_
  refine lm_trade X hK hP hD hS h2 hl.1 dL_law_703 (fun H locs hP hD hS => ?_)
  refine lv_icmp_eq (tgt := 1199) hx hb dL_law_706 (by decide) (fun _ => ?_) (fun c9 => absurd he c9)
  exact back _ _ _ _ _ _ hI2 hP hD hS
set_option maxHeartbeats 4000000 in
set_option maxRecDepth 100000 in
theorem cs_trade_3 (X : cx p s m #[Value.ref b] meth c code 4 ret RL lw_tbl) (hK : va_K D vwCl (ty3 cI cZ cR) s) (hX : va_X b L xs s s.heap) (hbl : b < s.heap.size) (hi : i + 6 ≤ L) (hL : L ≤ 3072) (hI : Inv I R J Q) (hP : va_P D vwCl (wX cI cZ cR ad I R ++ wM cI cZ cR ad J Q) H) (hD : va_D (lA s) (wX cI cZ cR ad I R ++ wM cI cZ cR ad J Q)) (hS : va_S (lA s) s.heap H locs) (hl : lv_has ls 4 [(0, .ref b), (1, .ref (ad 0)), (2, .ref (ad 70)), (3, .int (nI i))]) (hs1 : vp_in (xs (nI i + 1).toNatClampNeg) 4 → ((xs (nI i + 1).toNatClampNeg)).toNatClampNeg = 3) (hs2 : ∀ q, q < 4 → (xs (nI i + 1).toNatClampNeg) = nI q → q = 3) (back : Back p l e s m below meth c b D cI cZ cR ad ls) : LW p l e s m below meth c b H locs 678 ls [] := by
  obtain ⟨hx, hb, hml, hr, hown, hts, hlocks, hN⟩ := id X
  have hbA : ¬ lA s b := Nat.not_le.mpr hbl
  have h_1 : vp_in (nI i + 1) L := sin_ok (k := 1) hi hL (by decide)
  have h_2 : vp_in (nI i + 2) L := sin_ok (k := 2) hi hL (by decide)
  obtain ⟨o1, h1, o2, h2, he, hI2⟩ := st_trade_3 hI (xs (nI i + 1).toNatClampNeg) (xs (nI i + 2).toNatClampNeg) hs2
  refine lv_aload_n hx hb dL_law_678 rfl (lv_at hl 1 rfl) ?_
  refine lv_aload_n hx hb dL_law_679 rfl (lv_at hl 0 rfl) ?_
  refine lv_iload_n hx hb dL_law_680 rfl (lv_at hl 3 rfl) ?_
  refine lv_iconst (v := (1 : Int32)) hx hb dL_law_681 (by decide) ?_
  refine lv_iadd hx hb dL_law_682 ?_
  refine va_sld hx hb hX hbl hbA hS h_1 dL_law_683 ?_
  refine lv_aload_n hx hb dL_law_684 rfl (lv_at hl 0 rfl) ?_
  refine lv_iload_n hx hb dL_law_685 rfl (lv_at hl 3 rfl) ?_
  refine lv_iconst (v := (2 : Int32)) hx hb dL_law_686 (by decide) ?_
  refine lv_iadd hx hb dL_law_687 ?_
  refine va_sld hx hb hX hbl hbA hS h_2 dL_law_688 ?_
  refine lx_trade_3 X hK hP hD hS hs1 h1 hl.1 dL_law_689 (fun H locs hP hD hS => ?_)
  refine lv_aload_n hx hb dL_law_692 rfl (lv_at hl 2 rfl) ?_
  refine lv_aload_n hx hb dL_law_693 rfl (lv_at hl 0 rfl) ?_
  refine lv_iload_n hx hb dL_law_694 rfl (lv_at hl 3 rfl) ?_
  refine lv_iconst (v := (1 : Int32)) hx hb dL_law_695 (by decide) ?_
  refine lv_iadd hx hb dL_law_696 ?_
  refine va_sld hx hb hX hbl hbA hS h_1 dL_law_697 ?_
  refine lv_aload_n hx hb dL_law_698 rfl (lv_at hl 0 rfl) ?_
  refine lv_iload_n hx hb dL_law_699 rfl (lv_at hl 3 rfl) ?_
  refine lv_iconst (v := (2 : Int32)) hx hb dL_law_700 (by decide) ?_
  refine lv_iadd hx hb dL_law_701 ?_
  refine va_sld hx hb hX hbl hbA hS h_2 dL_law_702 ?_
  refine lm_trade X hK hP hD hS h2 hl.1 dL_law_703 (fun H locs hP hD hS => ?_)
  refine lv_icmp_eq (tgt := 1199) hx hb dL_law_706 (by decide) (fun _ => ?_) (fun c9 => absurd he c9)
  exact back _ _ _ _ _ _ hI2 hP hD hS
set_option maxHeartbeats 4000000 in
set_option maxRecDepth 100000 in
theorem cs_days_0 (X : cx p s m #[Value.ref b] meth c code 4 ret RL lw_tbl) (hK : va_K D vwCl (ty3 cI cZ cR) s) (hX : va_X b L xs s s.heap) (hbl : b < s.heap.size) (hi : i + 6 ≤ L) (hL : L ≤ 3072) (hI : Inv I R J Q) (hP : va_P D vwCl (wX cI cZ cR ad I R ++ wM cI cZ cR ad J Q) H) (hD : va_D (lA s) (wX cI cZ cR ad I R ++ wM cI cZ cR ad J Q)) (hS : va_S (lA s) s.heap H locs) (hl : lv_has ls 4 [(0, .ref b), (1, .ref (ad 0)), (2, .ref (ad 70)), (3, .int (nI i))]) (hs1 : vp_in (xs (nI i + 1).toNatClampNeg) 4 → ((xs (nI i + 1).toNatClampNeg)).toNatClampNeg = 0) (hs2 : ∀ q, q < 4 → (xs (nI i + 1).toNatClampNeg) = nI q → q = 0) (back : Back p l e s m below meth c b D cI cZ cR ad ls) : LW p l e s m below meth c b H locs 711 ls [] := by
  obtain ⟨hx, hb, hml, hr, hown, hts, hlocks, hN⟩ := id X
  have hbA : ¬ lA s b := Nat.not_le.mpr hbl
  have h_1 : vp_in (nI i + 1) L := sin_ok (k := 1) hi hL (by decide)
  have h_2 : vp_in (nI i + 2) L := sin_ok (k := 2) hi hL (by decide)
  have h_3 : vp_in (nI i + 3) L := sin_ok (k := 3) hi hL (by decide)
  have h_4 : vp_in (nI i + 4) L := sin_ok (k := 4) hi hL (by decide)
  have h_5 : vp_in (nI i + 5) L := sin_ok (k := 5) hi hL (by decide)
  obtain ⟨o1, h1, o2, h2, he, hI2⟩ := st_days_0 hI (xs (nI i + 1).toNatClampNeg) (xs (nI i + 2).toNatClampNeg) (xs (nI i + 3).toNatClampNeg) (xs (nI i + 4).toNatClampNeg) (xs (nI i + 5).toNatClampNeg) hs2
  refine lv_aload_n hx hb dL_law_711 rfl (lv_at hl 1 rfl) ?_
  refine lv_aload_n hx hb dL_law_712 rfl (lv_at hl 0 rfl) ?_
  refine lv_iload_n hx hb dL_law_713 rfl (lv_at hl 3 rfl) ?_
  refine lv_iconst (v := (1 : Int32)) hx hb dL_law_714 (by decide) ?_
  refine lv_iadd hx hb dL_law_715 ?_
  refine va_sld hx hb hX hbl hbA hS h_1 dL_law_716 ?_
  refine lv_aload_n hx hb dL_law_717 rfl (lv_at hl 0 rfl) ?_
  refine lv_iload_n hx hb dL_law_718 rfl (lv_at hl 3 rfl) ?_
  refine lv_iconst (v := (2 : Int32)) hx hb dL_law_719 (by decide) ?_
  refine lv_iadd hx hb dL_law_720 ?_
  refine va_sld hx hb hX hbl hbA hS h_2 dL_law_721 ?_
  refine lv_aload_n hx hb dL_law_722 rfl (lv_at hl 0 rfl) ?_
  refine lv_iload_n hx hb dL_law_723 rfl (lv_at hl 3 rfl) ?_
  refine lv_iconst (v := (3 : Int32)) hx hb dL_law_724 (by decide) ?_
  refine lv_iadd hx hb dL_law_725 ?_
  refine va_sld hx hb hX hbl hbA hS h_3 dL_law_726 ?_
  refine lv_aload_n hx hb dL_law_727 rfl (lv_at hl 0 rfl) ?_
  refine lv_iload_n hx hb dL_law_728 rfl (lv_at hl 3 rfl) ?_
  refine lv_iconst (v := (4 : Int32)) hx hb dL_law_729 (by decide) ?_
  refine lv_iadd hx hb dL_law_730 ?_
  refine va_sld hx hb hX hbl hbA hS h_4 dL_law_731 ?_
  refine lv_aload_n hx hb dL_law_732 rfl (lv_at hl 0 rfl) ?_
  refine lv_iload_n hx hb dL_law_733 rfl (lv_at hl 3 rfl) ?_
  refine lv_iconst (v := (5 : Int32)) hx hb dL_law_734 (by decide) ?_
  refine lv_iadd hx hb dL_law_735 ?_
  refine va_sld hx hb hX hbl hbA hS h_5 dL_law_736 ?_
  refine lx_days_0 X hK hP hD hS hs1 h1 hl.1 dL_law_737 (fun H locs hP hD hS => ?_)
  refine lv_aload_n hx hb dL_law_740 rfl (lv_at hl 2 rfl) ?_
  refine lv_aload_n hx hb dL_law_741 rfl (lv_at hl 0 rfl) ?_
  refine lv_iload_n hx hb dL_law_742 rfl (lv_at hl 3 rfl) ?_
  refine lv_iconst (v := (1 : Int32)) hx hb dL_law_743 (by decide) ?_
  refine lv_iadd hx hb dL_law_744 ?_
  refine va_sld hx hb hX hbl hbA hS h_1 dL_law_745 ?_
  refine lv_aload_n hx hb dL_law_746 rfl (lv_at hl 0 rfl) ?_
  refine lv_iload_n hx hb dL_law_747 rfl (lv_at hl 3 rfl) ?_
  refine lv_iconst (v := (2 : Int32)) hx hb dL_law_748 (by decide) ?_
  refine lv_iadd hx hb dL_law_749 ?_
  refine va_sld hx hb hX hbl hbA hS h_2 dL_law_750 ?_
  refine lv_aload_n hx hb dL_law_751 rfl (lv_at hl 0 rfl) ?_
  refine lv_iload_n hx hb dL_law_752 rfl (lv_at hl 3 rfl) ?_
  refine lv_iconst (v := (3 : Int32)) hx hb dL_law_753 (by decide) ?_
  refine lv_iadd hx hb dL_law_754 ?_
  refine va_sld hx hb hX hbl hbA hS h_3 dL_law_755 ?_
  refine lv_aload_n hx hb dL_law_756 rfl (lv_at hl 0 rfl) ?_
  refine lv_iload_n hx hb dL_law_757 rfl (lv_at hl 3 rfl) ?_
  refine lv_iconst (v := (4 : Int32)) hx hb dL_law_758 (by decide) ?_
  refine lv_iadd hx hb dL_law_759 ?_
  refine va_sld hx hb hX hbl hbA hS h_4 dL_law_760 ?_
  refine lv_aload_n hx hb dL_law_761 rfl (lv_at hl 0 rfl) ?_
  refine lv_iload_n hx hb dL_law_762 rfl (lv_at hl 3 rfl) ?_
  refine lv_iconst (v := (5 : Int32)) hx hb dL_law_763 (by decide) ?_
  refine lv_iadd hx hb dL_law_764 ?_
  refine va_sld hx hb hX hbl hbA hS h_5 dL_law_765 ?_
  refine lm_days X hK hP hD hS h2 hl.1 dL_law_766 (fun H locs hP hD hS => ?_)
  refine lv_icmp_eq (tgt := 1199) hx hb dL_law_769 (by decide) (fun _ => ?_) (fun c9 => absurd he c9)
  exact back _ _ _ _ _ _ hI2 hP hD hS
set_option maxHeartbeats 4000000 in
set_option maxRecDepth 100000 in
theorem cs_days_1 (X : cx p s m #[Value.ref b] meth c code 4 ret RL lw_tbl) (hK : va_K D vwCl (ty3 cI cZ cR) s) (hX : va_X b L xs s s.heap) (hbl : b < s.heap.size) (hi : i + 6 ≤ L) (hL : L ≤ 3072) (hI : Inv I R J Q) (hP : va_P D vwCl (wX cI cZ cR ad I R ++ wM cI cZ cR ad J Q) H) (hD : va_D (lA s) (wX cI cZ cR ad I R ++ wM cI cZ cR ad J Q)) (hS : va_S (lA s) s.heap H locs) (hl : lv_has ls 4 [(0, .ref b), (1, .ref (ad 0)), (2, .ref (ad 70)), (3, .int (nI i))]) (hs1 : vp_in (xs (nI i + 1).toNatClampNeg) 4 → ((xs (nI i + 1).toNatClampNeg)).toNatClampNeg = 1) (hs2 : ∀ q, q < 4 → (xs (nI i + 1).toNatClampNeg) = nI q → q = 1) (back : Back p l e s m below meth c b D cI cZ cR ad ls) : LW p l e s m below meth c b H locs 711 ls [] := by
  obtain ⟨hx, hb, hml, hr, hown, hts, hlocks, hN⟩ := id X
  have hbA : ¬ lA s b := Nat.not_le.mpr hbl
  have h_1 : vp_in (nI i + 1) L := sin_ok (k := 1) hi hL (by decide)
  have h_2 : vp_in (nI i + 2) L := sin_ok (k := 2) hi hL (by decide)
  have h_3 : vp_in (nI i + 3) L := sin_ok (k := 3) hi hL (by decide)
  have h_4 : vp_in (nI i + 4) L := sin_ok (k := 4) hi hL (by decide)
  have h_5 : vp_in (nI i + 5) L := sin_ok (k := 5) hi hL (by decide)
  obtain ⟨o1, h1, o2, h2, he, hI2⟩ := st_days_1 hI (xs (nI i + 1).toNatClampNeg) (xs (nI i + 2).toNatClampNeg) (xs (nI i + 3).toNatClampNeg) (xs (nI i + 4).toNatClampNeg) (xs (nI i + 5).toNatClampNeg) hs2
  refine lv_aload_n hx hb dL_law_711 rfl (lv_at hl 1 rfl) ?_
  refine lv_aload_n hx hb dL_law_712 rfl (lv_at hl 0 rfl) ?_
  refine lv_iload_n hx hb dL_law_713 rfl (lv_at hl 3 rfl) ?_
  refine lv_iconst (v := (1 : Int32)) hx hb dL_law_714 (by decide) ?_
  refine lv_iadd hx hb dL_law_715 ?_
  refine va_sld hx hb hX hbl hbA hS h_1 dL_law_716 ?_
  refine lv_aload_n hx hb dL_law_717 rfl (lv_at hl 0 rfl) ?_
  refine lv_iload_n hx hb dL_law_718 rfl (lv_at hl 3 rfl) ?_
  refine lv_iconst (v := (2 : Int32)) hx hb dL_law_719 (by decide) ?_
  refine lv_iadd hx hb dL_law_720 ?_
  refine va_sld hx hb hX hbl hbA hS h_2 dL_law_721 ?_
  refine lv_aload_n hx hb dL_law_722 rfl (lv_at hl 0 rfl) ?_
  refine lv_iload_n hx hb dL_law_723 rfl (lv_at hl 3 rfl) ?_
  refine lv_iconst (v := (3 : Int32)) hx hb dL_law_724 (by decide) ?_
  refine lv_iadd hx hb dL_law_725 ?_
  refine va_sld hx hb hX hbl hbA hS h_3 dL_law_726 ?_
  refine lv_aload_n hx hb dL_law_727 rfl (lv_at hl 0 rfl) ?_
  refine lv_iload_n hx hb dL_law_728 rfl (lv_at hl 3 rfl) ?_
  refine lv_iconst (v := (4 : Int32)) hx hb dL_law_729 (by decide) ?_
  refine lv_iadd hx hb dL_law_730 ?_
  refine va_sld hx hb hX hbl hbA hS h_4 dL_law_731 ?_
  refine lv_aload_n hx hb dL_law_732 rfl (lv_at hl 0 rfl) ?_
  refine lv_iload_n hx hb dL_law_733 rfl (lv_at hl 3 rfl) ?_
  refine lv_iconst (v := (5 : Int32)) hx hb dL_law_734 (by decide) ?_
  refine lv_iadd hx hb dL_law_735 ?_
  refine va_sld hx hb hX hbl hbA hS h_5 dL_law_736 ?_
  refine lx_days_1 X hK hP hD hS hs1 h1 hl.1 dL_law_737 (fun H locs hP hD hS => ?_)
  refine lv_aload_n hx hb dL_law_740 rfl (lv_at hl 2 rfl) ?_
  refine lv_aload_n hx hb dL_law_741 rfl (lv_at hl 0 rfl) ?_
  refine lv_iload_n hx hb dL_law_742 rfl (lv_at hl 3 rfl) ?_
  refine lv_iconst (v := (1 : Int32)) hx hb dL_law_743 (by decide) ?_
  refine lv_iadd hx hb dL_law_744 ?_
  refine va_sld hx hb hX hbl hbA hS h_1 dL_law_745 ?_
  refine lv_aload_n hx hb dL_law_746 rfl (lv_at hl 0 rfl) ?_
  refine lv_iload_n hx hb dL_law_747 rfl (lv_at hl 3 rfl) ?_
  refine lv_iconst (v := (2 : Int32)) hx hb dL_law_748 (by decide) ?_
  refine lv_iadd hx hb dL_law_749 ?_
  refine va_sld hx hb hX hbl hbA hS h_2 dL_law_750 ?_
  refine lv_aload_n hx hb dL_law_751 rfl (lv_at hl 0 rfl) ?_
  refine lv_iload_n hx hb dL_law_752 rfl (lv_at hl 3 rfl) ?_
  refine lv_iconst (v := (3 : Int32)) hx hb dL_law_753 (by decide) ?_
  refine lv_iadd hx hb dL_law_754 ?_
  refine va_sld hx hb hX hbl hbA hS h_3 dL_law_755 ?_
  refine lv_aload_n hx hb dL_law_756 rfl (lv_at hl 0 rfl) ?_
  refine lv_iload_n hx hb dL_law_757 rfl (lv_at hl 3 rfl) ?_
  refine lv_iconst (v := (4 : Int32)) hx hb dL_law_758 (by decide) ?_
  refine lv_iadd hx hb dL_law_759 ?_
  refine va_sld hx hb hX hbl hbA hS h_4 dL_law_760 ?_
  refine lv_aload_n hx hb dL_law_761 rfl (lv_at hl 0 rfl) ?_
  refine lv_iload_n hx hb dL_law_762 rfl (lv_at hl 3 rfl) ?_
  refine lv_iconst (v := (5 : Int32)) hx hb dL_law_763 (by decide) ?_
  refine lv_iadd hx hb dL_law_764 ?_
  refine va_sld hx hb hX hbl hbA hS h_5 dL_law_765 ?_
  refine lm_days X hK hP hD hS h2 hl.1 dL_law_766 (fun H locs hP hD hS => ?_)
  refine lv_icmp_eq (tgt := 1199) hx hb dL_law_769 (by decide) (fun _ => ?_) (fun c9 => absurd he c9)
  exact back _ _ _ _ _ _ hI2 hP hD hS
set_option maxHeartbeats 4000000 in
set_option maxRecDepth 100000 in
theorem cs_days_2 (X : cx p s m #[Value.ref b] meth c code 4 ret RL lw_tbl) (hK : va_K D vwCl (ty3 cI cZ cR) s) (hX : va_X b L xs s s.heap) (hbl : b < s.heap.size) (hi : i + 6 ≤ L) (hL : L ≤ 3072) (hI : Inv I R J Q) (hP : va_P D vwCl (wX cI cZ cR ad I R ++ wM cI cZ cR ad J Q) H) (hD : va_D (lA s) (wX cI cZ cR ad I R ++ wM cI cZ cR ad J Q)) (hS : va_S (lA s) s.heap H locs) (hl : lv_has ls 4 [(0, .ref b), (1, .ref (ad 0)), (2, .ref (ad 70)), (3, .int (nI i))]) (hs1 : vp_in (xs (nI i + 1).toNatClampNeg) 4 → ((xs (nI i + 1).toNatClampNeg)).toNatClampNeg = 2) (hs2 : ∀ q, q < 4 → (xs (nI i + 1).toNatClampNeg) = nI q → q = 2) (back : Back p l e s m below meth c b D cI cZ cR ad ls) : LW p l e s m below meth c b H locs 711 ls [] := by
  obtain ⟨hx, hb, hml, hr, hown, hts, hlocks, hN⟩ := id X
  have hbA : ¬ lA s b := Nat.not_le.mpr hbl
  have h_1 : vp_in (nI i + 1) L := sin_ok (k := 1) hi hL (by decide)
  have h_2 : vp_in (nI i + 2) L := sin_ok (k := 2) hi hL (by decide)
  have h_3 : vp_in (nI i + 3) L := sin_ok (k := 3) hi hL (by decide)
  have h_4 : vp_in (nI i + 4) L := sin_ok (k := 4) hi hL (by decide)
  have h_5 : vp_in (nI i + 5) L := sin_ok (k := 5) hi hL (by decide)
  obtain ⟨o1, h1, o2, h2, he, hI2⟩ := st_days_2 hI (xs (nI i + 1).toNatClampNeg) (xs (nI i + 2).toNatClampNeg) (xs (nI i + 3).toNatClampNeg) (xs (nI i + 4).toNatClampNeg) (xs (nI i + 5).toNatClampNeg) hs2
  refine lv_aload_n hx hb dL_law_711 rfl (lv_at hl 1 rfl) ?_
  refine lv_aload_n hx hb dL_law_712 rfl (lv_at hl 0 rfl) ?_
  refine lv_iload_n hx hb dL_law_713 rfl (lv_at hl 3 rfl) ?_
  refine lv_iconst (v := (1 : Int32)) hx hb dL_law_714 (by decide) ?_
  refine lv_iadd hx hb dL_law_715 ?_
  refine va_sld hx hb hX hbl hbA hS h_1 dL_law_716 ?_
  refine lv_aload_n hx hb dL_law_717 rfl (lv_at hl 0 rfl) ?_
  refine lv_iload_n hx hb dL_law_718 rfl (lv_at hl 3 rfl) ?_
  refine lv_iconst (v := (2 : Int32)) hx hb dL_law_719 (by decide) ?_
  refine lv_iadd hx hb dL_law_720 ?_
  refine va_sld hx hb hX hbl hbA hS h_2 dL_law_721 ?_
  refine lv_aload_n hx hb dL_law_722 rfl (lv_at hl 0 rfl) ?_
  refine lv_iload_n hx hb dL_law_723 rfl (lv_at hl 3 rfl) ?_
  refine lv_iconst (v := (3 : Int32)) hx hb dL_law_724 (by decide) ?_
  refine lv_iadd hx hb dL_law_725 ?_
  refine va_sld hx hb hX hbl hbA hS h_3 dL_law_726 ?_
  refine lv_aload_n hx hb dL_law_727 rfl (lv_at hl 0 rfl) ?_
  refine lv_iload_n hx hb dL_law_728 rfl (lv_at hl 3 rfl) ?_
  refine lv_iconst (v := (4 : Int32)) hx hb dL_law_729 (by decide) ?_
  refine lv_iadd hx hb dL_law_730 ?_
  refine va_sld hx hb hX hbl hbA hS h_4 dL_law_731 ?_
  refine lv_aload_n hx hb dL_law_732 rfl (lv_at hl 0 rfl) ?_
  refine lv_iload_n hx hb dL_law_733 rfl (lv_at hl 3 rfl) ?_
  refine lv_iconst (v := (5 : Int32)) hx hb dL_law_734 (by decide) ?_
  refine lv_iadd hx hb dL_law_735 ?_
  refine va_sld hx hb hX hbl hbA hS h_5 dL_law_736 ?_
  refine lx_days_2 X hK hP hD hS hs1 h1 hl.1 dL_law_737 (fun H locs hP hD hS => ?_)
  refine lv_aload_n hx hb dL_law_740 rfl (lv_at hl 2 rfl) ?_
  refine lv_aload_n hx hb dL_law_741 rfl (lv_at hl 0 rfl) ?_
  refine lv_iload_n hx hb dL_law_742 rfl (lv_at hl 3 rfl) ?_
  refine lv_iconst (v := (1 : Int32)) hx hb dL_law_743 (by decide) ?_
  refine lv_iadd hx hb dL_law_744 ?_
  refine va_sld hx hb hX hbl hbA hS h_1 dL_law_745 ?_
  refine lv_aload_n hx hb dL_law_746 rfl (lv_at hl 0 rfl) ?_
  refine lv_iload_n hx hb dL_law_747 rfl (lv_at hl 3 rfl) ?_
  refine lv_iconst (v := (2 : Int32)) hx hb dL_law_748 (by decide) ?_
  refine lv_iadd hx hb dL_law_749 ?_
  refine va_sld hx hb hX hbl hbA hS h_2 dL_law_750 ?_
  refine lv_aload_n hx hb dL_law_751 rfl (lv_at hl 0 rfl) ?_
  refine lv_iload_n hx hb dL_law_752 rfl (lv_at hl 3 rfl) ?_
  refine lv_iconst (v := (3 : Int32)) hx hb dL_law_753 (by decide) ?_
  refine lv_iadd hx hb dL_law_754 ?_
  refine va_sld hx hb hX hbl hbA hS h_3 dL_law_755 ?_
  refine lv_aload_n hx hb dL_law_756 rfl (lv_at hl 0 rfl) ?_
  refine lv_iload_n hx hb dL_law_757 rfl (lv_at hl 3 rfl) ?_
  refine lv_iconst (v := (4 : Int32)) hx hb dL_law_758 (by decide) ?_
  refine lv_iadd hx hb dL_law_759 ?_
  refine va_sld hx hb hX hbl hbA hS h_4 dL_law_760 ?_
  refine lv_aload_n hx hb dL_law_761 rfl (lv_at hl 0 rfl) ?_
  refine lv_iload_n hx hb dL_law_762 rfl (lv_at hl 3 rfl) ?_
  refine lv_iconst (v := (5 : Int32)) hx hb dL_law_763 (by decide) ?_
  refine lv_iadd hx hb dL_law_764 ?_
  refine va_sld hx hb hX hbl hbA hS h_5 dL_law_765 ?_
  refine lm_days X hK hP hD hS h2 hl.1 dL_law_766 (fun H locs hP hD hS => ?_)
  refine lv_icmp_eq (tgt := 1199) hx hb dL_law_769 (by decide) (fun _ => ?_) (fun c9 => absurd he c9)
  exact back _ _ _ _ _ _ hI2 hP hD hS
set_option maxHeartbeats 4000000 in
set_option maxRecDepth 100000 in
theorem cs_days_3 (X : cx p s m #[Value.ref b] meth c code 4 ret RL lw_tbl) (hK : va_K D vwCl (ty3 cI cZ cR) s) (hX : va_X b L xs s s.heap) (hbl : b < s.heap.size) (hi : i + 6 ≤ L) (hL : L ≤ 3072) (hI : Inv I R J Q) (hP : va_P D vwCl (wX cI cZ cR ad I R ++ wM cI cZ cR ad J Q) H) (hD : va_D (lA s) (wX cI cZ cR ad I R ++ wM cI cZ cR ad J Q)) (hS : va_S (lA s) s.heap H locs) (hl : lv_has ls 4 [(0, .ref b), (1, .ref (ad 0)), (2, .ref (ad 70)), (3, .int (nI i))]) (hs1 : vp_in (xs (nI i + 1).toNatClampNeg) 4 → ((xs (nI i + 1).toNatClampNeg)).toNatClampNeg = 3) (hs2 : ∀ q, q < 4 → (xs (nI i + 1).toNatClampNeg) = nI q → q = 3) (back : Back p l e s m below meth c b D cI cZ cR ad ls) : LW p l e s m below meth c b H locs 711 ls [] := by
  obtain ⟨hx, hb, hml, hr, hown, hts, hlocks, hN⟩ := id X
  have hbA : ¬ lA s b := Nat.not_le.mpr hbl
  have h_1 : vp_in (nI i + 1) L := sin_ok (k := 1) hi hL (by decide)
  have h_2 : vp_in (nI i + 2) L := sin_ok (k := 2) hi hL (by decide)
  have h_3 : vp_in (nI i + 3) L := sin_ok (k := 3) hi hL (by decide)
  have h_4 : vp_in (nI i + 4) L := sin_ok (k := 4) hi hL (by decide)
  have h_5 : vp_in (nI i + 5) L := sin_ok (k := 5) hi hL (by decide)
  obtain ⟨o1, h1, o2, h2, he, hI2⟩ := st_days_3 hI (xs (nI i + 1).toNatClampNeg) (xs (nI i + 2).toNatClampNeg) (xs (nI i + 3).toNatClampNeg) (xs (nI i + 4).toNatClampNeg) (xs (nI i + 5).toNatClampNeg) hs2
  refine lv_aload_n hx hb dL_law_711 rfl (lv_at hl 1 rfl) ?_
  refine lv_aload_n hx hb dL_law_712 rfl (lv_at hl 0 rfl) ?_
  refine lv_iload_n hx hb dL_law_713 rfl (lv_at hl 3 rfl) ?_
  refine lv_iconst (v := (1 : Int32)) hx hb dL_law_714 (by decide) ?_
  refine lv_iadd hx hb dL_law_715 ?_
  refine va_sld hx hb hX hbl hbA hS h_1 dL_law_716 ?_
  refine lv_aload_n hx hb dL_law_717 rfl (lv_at hl 0 rfl) ?_
  refine lv_iload_n hx hb dL_law_718 rfl (lv_at hl 3 rfl) ?_
  refine lv_iconst (v := (2 : Int32)) hx hb dL_law_719 (by decide) ?_
  refine lv_iadd hx hb dL_law_720 ?_
  refine va_sld hx hb hX hbl hbA hS h_2 dL_law_721 ?_
  refine lv_aload_n hx hb dL_law_722 rfl (lv_at hl 0 rfl) ?_
  refine lv_iload_n hx hb dL_law_723 rfl (lv_at hl 3 rfl) ?_
  refine lv_iconst (v := (3 : Int32)) hx hb dL_law_724 (by decide) ?_
  refine lv_iadd hx hb dL_law_725 ?_
  refine va_sld hx hb hX hbl hbA hS h_3 dL_law_726 ?_
  refine lv_aload_n hx hb dL_law_727 rfl (lv_at hl 0 rfl) ?_
  refine lv_iload_n hx hb dL_law_728 rfl (lv_at hl 3 rfl) ?_
  refine lv_iconst (v := (4 : Int32)) hx hb dL_law_729 (by decide) ?_
  refine lv_iadd hx hb dL_law_730 ?_
  refine va_sld hx hb hX hbl hbA hS h_4 dL_law_731 ?_
  refine lv_aload_n hx hb dL_law_732 rfl (lv_at hl 0 rfl) ?_
  refine lv_iload_n hx hb dL_law_733 rfl (lv_at hl 3 rfl) ?_
  refine lv_iconst (v := (5 : Int32)) hx hb dL_law_734 (by decide) ?_
  refine lv_iadd hx hb dL_law_735 ?_
  refine va_sld hx hb hX hbl hbA hS h_5 dL_law_736 ?_
  refine lx_days_3 X hK hP hD hS hs1 h1 hl.1 dL_law_737 (fun H locs hP hD hS => ?_)
  refine lv_aload_n hx hb dL_law_740 rfl (lv_at hl 2 rfl) ?_
  refine lv_aload_n hx hb dL_law_741 rfl (lv_at hl 0 rfl) ?_
  refine lv_iload_n hx hb dL_law_742 rfl (lv_at hl 3 rfl) ?_
  refine lv_iconst (v := (1 : Int32)) hx hb dL_law_743 (by decide) ?_
  refine lv_iadd hx hb dL_law_744 ?_
  refine va_sld hx hb hX hbl hbA hS h_1 dL_law_745 ?_
  refine lv_aload_n hx hb dL_law_746 rfl (lv_at hl 0 rfl) ?_
  refine lv_iload_n hx hb dL_law_747 rfl (lv_at hl 3 rfl) ?_
  refine lv_iconst (v := (2 : Int32)) hx hb dL_law_748 (by decide) ?_
  refine lv_iadd hx hb dL_law_749 ?_
  refine va_sld hx hb hX hbl hbA hS h_2 dL_law_750 ?_
  refine lv_aload_n hx hb dL_law_751 rfl (lv_at hl 0 rfl) ?_
  refine lv_iload_n hx hb dL_law_752 rfl (lv_at hl 3 rfl) ?_
  refine lv_iconst (v := (3 : Int32)) hx hb dL_law_753 (by decide) ?_
  refine lv_iadd hx hb dL_law_754 ?_
  refine va_sld hx hb hX hbl hbA hS h_3 dL_law_755 ?_
  refine lv_aload_n hx hb dL_law_756 rfl (lv_at hl 0 rfl) ?_
  refine lv_iload_n hx hb dL_law_757 rfl (lv_at hl 3 rfl) ?_
  refine lv_iconst (v := (4 : Int32)) hx hb dL_law_758 (by decide) ?_
  refine lv_iadd hx hb dL_law_759 ?_
  refine va_sld hx hb hX hbl hbA hS h_4 dL_law_760 ?_
  refine lv_aload_n hx hb dL_law_761 rfl (lv_at hl 0 rfl) ?_
  refine lv_iload_n hx hb dL_law_762 rfl (lv_at hl 3 rfl) ?_
  refine lv_iconst (v := (5 : Int32)) hx hb dL_law_763 (by decide) ?_
  refine lv_iadd hx hb dL_law_764 ?_
  refine va_sld hx hb hX hbl hbA hS h_5 dL_law_765 ?_
  refine lm_days X hK hP hD hS h2 hl.1 dL_law_766 (fun H locs hP hD hS => ?_)
  refine lv_icmp_eq (tgt := 1199) hx hb dL_law_769 (by decide) (fun _ => ?_) (fun c9 => absurd he c9)
  exact back _ _ _ _ _ _ hI2 hP hD hS
end LAWCASES
