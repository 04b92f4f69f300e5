section LAWCASES
variable {p : Program} {l : Launch} {e : Env} {s : State} {m : MethodId} {below : List Frame} {meth : Method} {c : Code} {H : Heap} {locs : List Loc} {D : va_G} {cI cZ cR : ClassId} {b L : Nat} {xs : Nat → Int32} {adK adV ad : Nat → Nat} {I : Nat → Int32} {R : Nat → Nat → Int32} {J : Nat → Int32} {Q : Nat → Nat → Int32} {ls : Array Slot} {i : Nat}
set_option maxHeartbeats 4000000 in
set_option maxRecDepth 100000 in
theorem cs_line (X : cx p s m #[Value.ref b] meth c code 4 ret RL lw_tbl) (hK : va_K D vwCl (ty3 cI cZ cR) s) (hX : va_X b L xs s s.heap) (hbl : b < s.heap.size) (hi : i + 6 ≤ L) (hL : L ≤ 3072) (hI : Inv I R J Q) (hP : va_P D vwCl (wX cI cZ cR ad I R ++ wM cI cZ cR ad J Q) H) (hD : va_D (lA s) (wX cI cZ cR ad I R ++ wM cI cZ cR ad J Q)) (hS : va_S (lA s) s.heap H locs) (hl : lv_has ls 4 [(0, .ref b), (1, .ref (ad 0)), (2, .ref (ad 70)), (3, .int (nI i))]) (back : Back p l e s m below meth c b D cI cZ cR ad ls) : LW p l e s m below meth c b H locs 1011 ls [] := by
  obtain ⟨hx, hb, hml, hr, hown, hts, hlocks, hN⟩ := id X
  have hbA : ¬ lA s b := Nat.not_le.mpr hbl
  have h_1 : vp_in (nI i + 1) L := sin_ok (k := 1) hi hL (by decide)
  have h_2 : vp_in (nI i + 2) L := sin_ok (k := 2) hi hL (by decide)
  obtain ⟨o1, h1, o2, h2, he, hI2⟩ := st_line hI (xs (nI i + 1).toNatClampNeg) (xs (nI i + 2).toNatClampNeg)
  refine lv_aload_n hx hb dL_law_1011 rfl (lv_at hl 1 rfl) ?_
  refine lv_aload_n hx hb dL_law_1012 rfl (lv_at hl 0 rfl) ?_
  refine lv_iload_n hx hb dL_law_1013 rfl (lv_at hl 3 rfl) ?_
  refine lv_iconst (v := (1 : Int32)) hx hb dL_law_1014 (by decide) ?_
  refine lv_iadd hx hb dL_law_1015 ?_
  refine va_sld hx hb hX hbl hbA hS h_1 dL_law_1016 ?_
  refine lv_aload_n hx hb dL_law_1017 rfl (lv_at hl 0 rfl) ?_
  refine lv_iload_n hx hb dL_law_1018 rfl (lv_at hl 3 rfl) ?_
  refine lv_iconst (v := (2 : Int32)) hx hb dL_law_1019 (by decide) ?_
  refine lv_iadd hx hb dL_law_1020 ?_
  refine va_sld hx hb hX hbl hbA hS h_2 dL_law_1021 ?_
  refine lx_line X hK hP hD hS h1 hl.1 dL_law_1022 (fun H locs hP hD hS => ?_)
  refine lv_aload_n hx hb dL_law_1025 rfl (lv_at hl 2 rfl) ?_
  refine lv_aload_n hx hb dL_law_1026 rfl (lv_at hl 0 rfl) ?_
  refine lv_iload_n hx hb dL_law_1027 rfl (lv_at hl 3 rfl) ?_
  refine lv_iconst (v := (1 : Int32)) hx hb dL_law_1028 (by decide) ?_
  refine lv_iadd hx hb dL_law_1029 ?_
  refine va_sld hx hb hX hbl hbA hS h_1 dL_law_1030 ?_
  refine lv_aload_n hx hb dL_law_1031 rfl (lv_at hl 0 rfl) ?_
  refine lv_iload_n hx hb dL_law_1032 rfl (lv_at hl 3 rfl) ?_
  refine lv_iconst (v := (2 : Int32)) hx hb dL_law_1033 (by decide) ?_
  refine lv_iadd hx hb dL_law_1034 ?_
  refine va_sld hx hb hX hbl hbA hS h_2 dL_law_1035 ?_
  refine lm_line X hK hP hD hS h2 hl.1 dL_law_1036 (fun H locs hP hD hS => ?_)
  refine lv_icmp_eq (tgt := 1199) hx hb dL_law_1039 (by decide) (fun _ => ?_) (fun c9 => absurd he c9)
  exact back _ _ _ _ _ _ hI2 hP hD hS
set_option maxHeartbeats 4000000 in
set_option maxRecDepth 100000 in
theorem cs_coalition_0 (X : cx p s m #[Value.ref b] meth c code 4 ret RL lw_tbl) (hK : va_K D vwCl (ty3 cI cZ cR) s) (hX : va_X b L xs s s.heap) (hbl : b < s.heap.size) (hi : i + 6 ≤ L) (hL : L ≤ 3072) (hI : Inv I R J Q) (hP : va_P D vwCl (wX cI cZ cR ad I R ++ wM cI cZ cR ad J Q) H) (hD : va_D (lA s) (wX cI cZ cR ad I R ++ wM cI cZ cR ad J Q)) (hS : va_S (lA s) s.heap H locs) (hl : lv_has ls 4 [(0, .ref b), (1, .ref (ad 0)), (2, .ref (ad 70)), (3, .int (nI i))]) (hs1 : vp_in (xs (nI i + 1).toNatClampNeg) 4 → ((xs (nI i + 1).toNatClampNeg)).toNatClampNeg = 0) (hs2 : ∀ q, q < 4 → (xs (nI i + 1).toNatClampNeg) = nI q → q = 0) (back : Back p l e s m below meth c b D cI cZ cR ad ls) : LW p l e s m below meth c b H locs 1044 ls [] := by
  obtain ⟨hx, hb, hml, hr, hown, hts, hlocks, hN⟩ := id X
  have hbA : ¬ lA s b := Nat.not_le.mpr hbl
  have h_1 : vp_in (nI i + 1) L := sin_ok (k := 1) hi hL (by decide)
  have h_2 : vp_in (nI i + 2) L := sin_ok (k := 2) hi hL (by decide)
  obtain ⟨o1, h1, o2, h2, he, hI2⟩ := st_coalition_0 hI (xs (nI i + 1).toNatClampNeg) (xs (nI i + 2).toNatClampNeg) hs2
  refine lv_aload_n hx hb dL_law_1044 rfl (lv_at hl 1 rfl) ?_
  refine lv_aload_n hx hb dL_law_1045 rfl (lv_at hl 0 rfl) ?_
  refine lv_iload_n hx hb dL_law_1046 rfl (lv_at hl 3 rfl) ?_
  refine lv_iconst (v := (1 : Int32)) hx hb dL_law_1047 (by decide) ?_
  refine lv_iadd hx hb dL_law_1048 ?_
  refine va_sld hx hb hX hbl hbA hS h_1 dL_law_1049 ?_
  refine lv_aload_n hx hb dL_law_1050 rfl (lv_at hl 0 rfl) ?_
  refine lv_iload_n hx hb dL_law_1051 rfl (lv_at hl 3 rfl) ?_
  refine lv_iconst (v := (2 : Int32)) hx hb dL_law_1052 (by decide) ?_
  refine lv_iadd hx hb dL_law_1053 ?_
  refine va_sld hx hb hX hbl hbA hS h_2 dL_law_1054 ?_
  refine lx_coalition_0 X hK hP hD hS hs1 h1 hl.1 dL_law_1055 (fun H locs hP hD hS => ?_)
  refine lv_aload_n hx hb dL_law_1058 rfl (lv_at hl 2 rfl) ?_
  refine lv_aload_n hx hb dL_law_1059 rfl (lv_at hl 0 rfl) ?_
  refine lv_iload_n hx hb dL_law_1060 rfl (lv_at hl 3 rfl) ?_
  refine lv_iconst (v := (1 : Int32)) hx hb dL_law_1061 (by decide) ?_
  refine lv_iadd hx hb dL_law_1062 ?_
  refine va_sld hx hb hX hbl hbA hS h_1 dL_law_1063 ?_
  refine lv_aload_n hx hb dL_law_1064 rfl (lv_at hl 0 rfl) ?_
  refine lv_iload_n hx hb dL_law_1065 rfl (lv_at hl 3 rfl) ?_
  refine lv_iconst (v := (2 : Int32)) hx hb dL_law_1066 (by decide) ?_
  refine lv_iadd hx hb dL_law_1067 ?_
  refine va_sld hx hb hX hbl hbA hS h_2 dL_law_1068 ?_
  refine lm_coalition X hK hP hD hS h2 hl.1 dL_law_1069 (fun H locs hP hD hS => ?_)
  refine lv_icmp_eq (tgt := 1199) hx hb dL_law_1072 (by decide) (fun _ => ?_) (fun c9 => absurd he c9)
  exact back _ _ _ _ _ _ hI2 hP hD hS
set_option maxHeartbeats 4000000 in
set_option maxRecDepth 100000 in
theorem cs_coalition_1 (X : cx p s m #[Value.ref b] meth c code 4 ret RL lw_tbl) (hK : va_K D vwCl (ty3 cI cZ cR) s) (hX : va_X b L xs s s.heap) (hbl : b < s.heap.size) (hi : i + 6 ≤ L) (hL : L ≤ 3072) (hI : Inv I R J Q) (hP : va_P D vwCl (wX cI cZ cR ad I R ++ wM cI cZ cR ad J Q) H) (hD : va_D (lA s) (wX cI cZ cR ad I R ++ wM cI cZ cR ad J Q)) (hS : va_S (lA s) s.heap H locs) (hl : lv_has ls 4 [(0, .ref b), (1, .ref (ad 0)), (2, .ref (ad 70)), (3, .int (nI i))]) (hs1 : vp_in (xs (nI i + 1).toNatClampNeg) 4 → ((xs (nI i + 1).toNatClampNeg)).toNatClampNeg = 1) (hs2 : ∀ q, q < 4 → (xs (nI i + 1).toNatClampNeg) = nI q → q = 1) (back : Back p l e s m below meth c b D cI cZ cR ad ls) : LW p l e s m below meth c b H locs 1044 ls [] := by
  obtain ⟨hx, hb, hml, hr, hown, hts, hlocks, hN⟩ := id X
  have hbA : ¬ lA s b := Nat.not_le.mpr hbl
  have h_1 : vp_in (nI i + 1) L := sin_ok (k := 1) hi hL (by decide)
  have h_2 : vp_in (nI i + 2) L := sin_ok (k := 2) hi hL (by decide)
  obtain ⟨o1, h1, o2, h2, he, hI2⟩ := st_coalition_1 hI (xs (nI i + 1).toNatClampNeg) (xs (nI i + 2).toNatClampNeg) hs2
  refine lv_aload_n hx hb dL_law_1044 rfl (lv_at hl 1 rfl) ?_
  refine lv_aload_n hx hb dL_law_1045 rfl (lv_at hl 0 rfl) ?_
  refine lv_iload_n hx hb dL_law_1046 rfl (lv_at hl 3 rfl) ?_
  refine lv_iconst (v := (1 : Int32)) hx hb dL_law_1047 (by decide) ?_
  refine lv_iadd hx hb dL_law_1048 ?_
  refine va_sld hx hb hX hbl hbA hS h_1 dL_law_1049 ?_
  refine lv_aload_n hx hb dL_law_1050 rfl (lv_at hl 0 rfl) ?_
  refine lv_iload_n hx hb dL_law_1051 rfl (lv_at hl 3 rfl) ?_
  refine lv_iconst (v := (2 : Int32)) hx hb dL_law_1052 (by decide) ?_
  refine lv_iadd hx hb dL_law_1053 ?_
  refine va_sld hx hb hX hbl hbA hS h_2 dL_law_1054 ?_
  refine lx_coalition_1 X hK hP hD hS hs1 h1 hl.1 dL_law_1055 (fun H locs hP hD hS => ?_)
  refine lv_aload_n hx hb dL_law_1058 rfl (lv_at hl 2 rfl) ?_
  refine lv_aload_n hx hb dL_law_1059 rfl (lv_at hl 0 rfl) ?_
  refine lv_iload_n hx hb dL_law_1060 rfl (lv_at hl 3 rfl) ?_
  refine lv_iconst (v := (1 : Int32)) hx hb dL_law_1061 (by decide) ?_
  refine lv_iadd hx hb dL_law_1062 ?_
  refine va_sld hx hb hX hbl hbA hS h_1 dL_law_1063 ?_
  refine lv_aload_n hx hb dL_law_1064 rfl (lv_at hl 0 rfl) ?_
  refine lv_iload_n hx hb dL_law_1065 rfl (lv_at hl 3 rfl) ?_
  refine lv_iconst (v := (2 : Int32)) hx hb dL_law_1066 (by decide) ?_
  refine lv_iadd hx hb dL_law_1067 ?_
  refine va_sld hx hb hX hbl hbA hS h_2 dL_law_1068 ?_
  refine lm_coalition X hK hP hD hS h2 hl.1 dL_law_1069 (fun H locs hP hD hS => ?_)
  refine lv_icmp_eq (tgt := 1199) hx hb dL_law_1072 (by decide) (fun _ => ?_) (fun c9 => absurd he c9)
  exact back _ _ _ _ _ _ hI2 hP hD hS
set_option maxHeartbeats 4000000 in
set_option maxRecDepth 100000 in
theorem cs_coalition_2 (X : cx p s m #[Value.ref b] meth c code 4 ret RL lw_tbl) (hK : va_K D vwCl (ty3 cI cZ cR) s) (hX : va_X b L xs s s.heap) (hbl : b < s.heap.size) (hi : i + 6 ≤ L) (hL : L ≤ 3072) (hI : Inv I R J Q) (hP : va_P D vwCl (wX cI cZ cR ad I R ++ wM cI cZ cR ad J Q) H) (hD : va_D (lA s) (wX cI cZ cR ad I R ++ wM cI cZ cR ad J Q)) (hS : va_S (lA s) s.heap H locs) (hl : lv_has ls 4 [(0, .ref b), (1, .ref (ad 0)), (2, .ref (ad 70)), (3, .int (nI i))]) (hs1 : vp_in (xs (nI i + 1).toNatClampNeg) 4 → ((xs (nI i + 1).toNatClampNeg)).toNatClampNeg = 2) (hs2 : ∀ q, q < 4 → (xs (nI i + 1).toNatClampNeg) = nI q → q = 2) (back : Back p l e s m below meth c b D cI cZ cR ad ls) : LW p l e s m below meth c b H locs 1044 ls [] := by
  obtain ⟨hx, hb, hml, hr, hown, hts, hlocks, hN⟩ := id X
  have hbA : ¬ lA s b := Nat.not_le.mpr hbl
  have h_1 : vp_in (nI i + 1) L := sin_ok (k := 1) hi hL (by decide)
  have h_2 : vp_in (nI i + 2) L := sin_ok (k := 2) hi hL (by decide)
  obtain ⟨o1, h1, o2, h2, he, hI2⟩ := st_coalition_2 hI (xs (nI i + 1).toNatClampNeg) (xs (nI i + 2).toNatClampNeg) hs2
  refine lv_aload_n hx hb dL_law_1044 rfl (lv_at hl 1 rfl) ?_
  refine lv_aload_n hx hb dL_law_1045 rfl (lv_at hl 0 rfl) ?_
  refine lv_iload_n hx hb dL_law_1046 rfl (lv_at hl 3 rfl) ?_
  refine lv_iconst (v := (1 : Int32)) hx hb dL_law_1047 (by decide) ?_
  refine lv_iadd hx hb dL_law_1048 ?_
  refine va_sld hx hb hX hbl hbA hS h_1 dL_law_1049 ?_
  refine lv_aload_n hx hb dL_law_1050 rfl (lv_at hl 0 rfl) ?_
  refine lv_iload_n hx hb dL_law_1051 rfl (lv_at hl 3 rfl) ?_
  refine lv_iconst (v := (2 : Int32)) hx hb dL_law_1052 (by decide) ?_
  refine lv_iadd hx hb dL_law_1053 ?_
  refine va_sld hx hb hX hbl hbA hS h_2 dL_law_1054 ?_
  refine lx_coalition_2 X hK hP hD hS hs1 h1 hl.1 dL_law_1055 (fun H locs hP hD hS => ?_)
  refine lv_aload_n hx hb dL_law_1058 rfl (lv_at hl 2 rfl) ?_
  refine lv_aload_n hx hb dL_law_1059 rfl (lv_at hl 0 rfl) ?_
  refine lv_iload_n hx hb dL_law_1060 rfl (lv_at hl 3 rfl) ?_
  refine lv_iconst (v := (1 : Int32)) hx hb dL_law_1061 (by decide) ?_
  refine lv_iadd hx hb dL_law_1062 ?_
  refine va_sld hx hb hX hbl hbA hS h_1 dL_law_1063 ?_
  refine lv_aload_n hx hb dL_law_1064 rfl (lv_at hl 0 rfl) ?_
  refine lv_iload_n hx hb dL_law_1065 rfl (lv_at hl 3 rfl) ?_
  refine lv_iconst (v := (2 : Int32)) hx hb dL_law_1066 (by decide) ?_
  refine lv_iadd hx hb dL_law_1067 ?_
  refine va_sld hx hb hX hbl hbA hS h_2 dL_law_1068 ?_
  refine lm_coalition X hK hP hD hS h2 hl.1 dL_law_1069 (fun H locs hP hD hS => ?_)
  refine lv_icmp_eq (tgt := 1199) hx hb dL_law_1072 (by decide) (fun _ => ?_) (fun c9 => absurd he c9)
  exact back _ _ _ _ _ _ hI2 hP hD hS
set_option maxHeartbeats 4000000 in
set_option maxRecDepth 100000 in
theorem cs_coalition_3 (X : cx p s m #[Value.ref b] meth c code 4 ret RL lw_tbl) (hK : va_K D vwCl (ty3 cI cZ cR) s) (hX : va_X b L xs s s.heap) (hbl : b < s.heap.size) (hi : i + 6 ≤ L) (hL : L ≤ 3072) (hI : Inv I R J Q) (hP : va_P D vwCl (wX cI cZ cR ad I R ++ wM cI cZ cR ad J Q) H) (hD : va_D (lA s) (wX cI cZ cR ad I R ++ wM cI cZ cR ad J Q)) (hS : va_S (lA s) s.heap H locs) (hl : lv_has ls 4 [(0, .ref b), (1, .ref (ad 0)), (2, .ref (ad 70)), (3, .int (nI i))]) (hs1 : vp_in (xs (nI i + 1).toNatClampNeg) 4 → ((xs (nI i + 1).toNatClampNeg)).toNatClampNeg = 3) (hs2 : ∀ q, q < 4 → (xs (nI i + 1).toNatClampNeg) = nI q → q = 3) (back : Back p l e s m below meth c b D cI cZ cR ad ls) : LW p l e s m below meth c b H locs 1044 ls [] := by
  obtain ⟨hx, hb, hml, hr, hown, hts, hlocks, hN⟩ := id X
  have hbA : ¬ lA s b := Nat.not_le.mpr hbl
  have h_1 : vp_in (nI i + 1) L := sin_ok (k := 1) hi hL (by decide)
  have h_2 : vp_in (nI i + 2) L := sin_ok (k := 2) hi hL (by decide)
  obtain ⟨o1, h1, o2, h2, he, hI2⟩ := st_coalition_3 hI (xs (nI i + 1).toNatClampNeg) (xs (nI i + 2).toNatClampNeg) hs2
  refine lv_aload_n hx hb dL_law_1044 rfl (lv_at hl 1 rfl) ?_
  refine lv_aload_n hx hb dL_law_1045 rfl (lv_at hl 0 rfl) ?_
  refine lv_iload_n hx hb dL_law_1046 rfl (lv_at hl 3 rfl) ?_
  refine lv_iconst (v := (1 : Int32)) hx hb dL_law_1047 (by decide) ?_
  refine lv_iadd hx hb dL_law_1048 ?_
  refine va_sld hx hb hX hbl hbA hS h_1 dL_law_1049 ?_
  refine lv_aload_n hx hb dL_law_1050 rfl (lv_at hl 0 rfl) ?_
  refine lv_iload_n hx hb dL_law_1051 rfl (lv_at hl 3 rfl) ?_
  refine lv_iconst (v := (2 : Int32)) hx hb dL_law_1052 (by decide) ?_
  refine lv_iadd hx hb dL_law_1053 ?_
  refine va_sld hx hb hX hbl hbA hS h_2 dL_law_1054 ?_
  refine lx_coalition_3 X hK hP hD hS hs1 h1 hl.1 dL_law_1055 (fun H locs hP hD hS => ?_)
  refine lv_aload_n hx hb dL_law_1058 rfl (lv_at hl 2 rfl) ?_
  refine lv_aload_n hx hb dL_law_1059 rfl (lv_at hl 0 rfl) ?_
  refine lv_iload_n hx hb dL_law_1060 rfl (lv_at hl 3 rfl) ?_
  refine lv_iconst (v := (1 : Int32)) hx hb dL_law_1061 (by decide) ?_
  refine lv_iadd hx hb dL_law_1062 ?_
  refine va_sld hx hb hX hbl hbA hS h_1 dL_law_1063 ?_
  refine lv_aload_n hx hb dL_law_1064 rfl (lv_at hl 0 rfl) ?_
  refine lv_iload_n hx hb dL_law_1065 rfl (lv_at hl 3 rfl) ?_
  refine lv_iconst (v := (2 : Int32)) hx hb dL_law_1066 (by decide) ?_
  refine lv_iadd hx hb dL_law_1067 ?_
  refine va_sld hx hb hX hbl hbA hS h_2 dL_law_1068 ?_
  refine lm_coalition X hK hP hD hS h2 hl.1 dL_law_1069 (fun H locs hP hD hS => ?_)
  refine lv_icmp_eq (tgt := 1199) hx hb dL_law_1072 (by decide) (fun _ => ?_) (fun c9 => absurd he c9)
  exact back _ _ _ _ _ _ hI2 hP hD hS
set_option maxHeartbeats 4000000 in
set_option maxRecDepth 100000 in
theorem cs_value (X : cx p s m #[Value.ref b] meth c code 4 ret RL lw_tbl) (hK : va_K D vwCl (ty3 cI cZ cR) s) (hX : va_X b L xs s s.heap) (hbl : b < s.heap.size) (hi : i + 6 ≤ L) (hL : L ≤ 3072) (hI : Inv I R J Q) (hP : va_P D vwCl (wX cI cZ cR ad I R ++ wM cI cZ cR ad J Q) H) (hD : va_D (lA s) (wX cI cZ cR ad I R ++ wM cI cZ cR ad J Q)) (hS : va_S (lA s) s.heap H locs) (hl : lv_has ls 4 [(0, .ref b), (1, .ref (ad 0)), (2, .ref (ad 70)), (3, .int (nI i))]) (back : Back p l e s m below meth c b D cI cZ cR ad ls) : LW p l e s m below meth c b H locs 1077 ls [] := by
  obtain ⟨hx, hb, hml, hr, hown, hts, hlocks, hN⟩ := id X
  have hbA : ¬ lA s b := Nat.not_le.mpr hbl
  have h_1 : vp_in (nI i + 1) L := sin_ok (k := 1) hi hL (by decide)
  have h_2 : vp_in (nI i + 2) L := sin_ok (k := 2) hi hL (by decide)
  have h_3 : vp_in (nI i + 3) L := sin_ok (k := 3) hi hL (by decide)
  obtain ⟨o1, h1, o2, h2, he, hI2⟩ := st_value hI (xs (nI i + 1).toNatClampNeg) (xs (nI i + 2).toNatClampNeg) (xs (nI i + 3).toNatClampNeg)
  refine lv_aload_n hx hb dL_law_1077 rfl (lv_at hl 1 rfl) ?_
  refine lv_aload_n hx hb dL_law_1078 rfl (lv_at hl 0 rfl) ?_
  refine lv_iload_n hx hb dL_law_1079 rfl (lv_at hl 3 rfl) ?_
  refine lv_iconst (v := (1 : Int32)) hx hb dL_law_1080 (by decide) ?_
  refine lv_iadd hx hb dL_law_1081 ?_
  refine va_sld hx hb hX hbl hbA hS h_1 dL_law_1082 ?_
  refine lv_aload_n hx hb dL_law_1083 rfl (lv_at hl 0 rfl) ?_
  refine lv_iload_n hx hb dL_law_1084 rfl (lv_at hl 3 rfl) ?_
  refine lv_iconst (v := (2 : Int32)) hx hb dL_law_1085 (by decide) ?_
  refine lv_iadd hx hb dL_law_1086 ?_
  refine va_sld hx hb hX hbl hbA hS h_2 dL_law_1087 ?_
  refine lv_aload_n hx hb dL_law_1088 rfl (lv_at hl 0 rfl) ?_
  refine lv_iload_n hx hb dL_law_1089 rfl (lv_at hl 3 rfl) ?_
  refine lv_iconst (v := (3 : Int32)) hx hb dL_law_1090 (by decide) ?_
  refine lv_iadd hx hb dL_law_1091 ?_
  refine va_sld hx hb hX hbl hbA hS h_3 dL_law_1092 ?_
  refine lx_value X hK hP hD hS h1 hl.1 dL_law_1093 (fun H locs hP hD hS => ?_)
  refine lv_aload_n hx hb dL_law_1096 rfl (lv_at hl 2 rfl) ?_
  refine lv_aload_n hx hb dL_law_1097 rfl (lv_at hl 0 rfl) ?_
  refine lv_iload_n hx hb dL_law_1098 rfl (lv_at hl 3 rfl) ?_
  refine lv_iconst (v := (1 : Int32)) hx hb dL_law_1099 (by decide) ?_
  refine lv_iadd hx hb dL_law_1100 ?_
  refine va_sld hx hb hX hbl hbA hS h_1 dL_law_1101 ?_
  refine lv_aload_n hx hb dL_law_1102 rfl (lv_at hl 0 rfl) ?_
  refine lv_iload_n hx hb dL_law_1103 rfl (lv_at hl 3 rfl) ?_
  refine lv_iconst (v := (2 : Int32)) hx hb dL_law_1104 (by decide) ?_
  refine lv_iadd hx hb dL_law_1105 ?_
  refine va_sld hx hb hX hbl hbA hS h_2 dL_law_1106 ?_
  refine lv_aload_n hx hb dL_law_1107 rfl (lv_at hl 0 rfl) ?_
  refine lv_iload_n hx hb dL_law_1108 rfl (lv_at hl 3 rfl) ?_
  refine lv_iconst (v := (3 : Int32)) hx hb dL_law_1109 (by decide) ?_
  refine lv_iadd hx hb dL_law_1110 ?_
  refine va_sld hx hb hX hbl hbA hS h_3 dL_law_1111 ?_
  refine lm_value X hK hP hD hS h2 hl.1 dL_law_1112 (fun H locs hP hD hS => ?_)
  refine lv_icmp_eq (tgt := 1199) hx hb dL_law_1115 (by decide) (fun _ => ?_) (fun c9 => absurd he c9)
  exact back _ _ _ _ _ _ hI2 hP hD hS
set_option maxHeartbeats 4000000 in
set_option maxRecDepth 100000 in
theorem cs_deal (X : cx p s m #[Value.ref b] meth c code 4 ret RL lw_tbl) (hK : va_K D vwCl (ty3 cI cZ cR) s) (hX : va_X b L xs s s.heap) (hbl : b < s.heap.size) (hi : i + 6 ≤ L) (hL : L ≤ 3072) (hI : Inv I R J Q) (hP : va_P D vwCl (wX cI cZ cR ad I R ++ wM cI cZ cR ad J Q) H) (hD : va_D (lA s) (wX cI cZ cR ad I R ++ wM cI cZ cR ad J Q)) (hS : va_S (lA s) s.heap H locs) (hl : lv_has ls 4 [(0, .ref b), (1, .ref (ad 0)), (2, .ref (ad 70)), (3, .int (nI i))]) (back : Back p l e s m below meth c b D cI cZ cR ad ls) : LW p l e s m below meth c b H locs 1120 ls [] := by
  obtain ⟨hx, hb, hml, hr, hown, hts, hlocks, hN⟩ := id X
  have hbA : ¬ lA s b := Nat.not_le.mpr hbl
  have h_1 : vp_in (nI i + 1) L := sin_ok (k := 1) hi hL (by decide)
  have h_2 : vp_in (nI i + 2) L := sin_ok (k := 2) hi hL (by decide)
  have h_3 : vp_in (nI i + 3) L := sin_ok (k := 3) hi hL (by decide)
  have h_4 : vp_in (nI i + 4) L := sin_ok (k := 4) hi hL (by decide)
  have h_5 : vp_in (nI i + 5) L := sin_ok (k := 5) hi hL (by decide)
  obtain ⟨o1, h1, o2, h2, he, hI2⟩ := st_deal hI (xs (nI i + 1).toNatClampNeg) (xs (nI i + 2).toNatClampNeg) (xs (nI i + 3).toNatClampNeg) (bz (xs (nI i + 4).toNatClampNeg)) (xs (nI i + 5).toNatClampNeg)
  refine lv_aload_n hx hb dL_law_1120 rfl (lv_at hl 1 rfl) ?_
  refine lv_aload_n hx hb dL_law_1121 rfl (lv_at hl 0 rfl) ?_
  refine lv_iload_n hx hb dL_law_1122 rfl (lv_at hl 3 rfl) ?_
  refine lv_iconst (v := (1 : Int32)) hx hb dL_law_1123 (by decide) ?_
  refine lv_iadd hx hb dL_law_1124 ?_
  refine va_sld hx hb hX hbl hbA hS h_1 dL_law_1125 ?_
  refine lv_aload_n hx hb dL_law_1126 rfl (lv_at hl 0 rfl) ?_
  refine lv_iload_n hx hb dL_law_1127 rfl (lv_at hl 3 rfl) ?_
  refine lv_iconst (v := (2 : Int32)) hx hb dL_law_1128 (by decide) ?_
  refine lv_iadd hx hb dL_law_1129 ?_
  refine va_sld hx hb hX hbl hbA hS h_2 dL_law_1130 ?_
  refine lv_aload_n hx hb dL_law_1131 rfl (lv_at hl 0 rfl) ?_
  refine lv_iload_n hx hb dL_law_1132 rfl (lv_at hl 3 rfl) ?_
  refine lv_iconst (v := (3 : Int32)) hx hb dL_law_1133 (by decide) ?_
  refine lv_iadd hx hb dL_law_1134 ?_
  refine va_sld hx hb hX hbl hbA hS h_3 dL_law_1135 ?_
  refine lv_aload_n hx hb dL_law_1136 rfl (lv_at hl 0 rfl) ?_
  refine lv_iload_n hx hb dL_law_1137 rfl (lv_at hl 3 rfl) ?_
  refine lv_iconst (v := (4 : Int32)) hx hb dL_law_1138 (by decide) ?_
  refine lv_iadd hx hb dL_law_1139 ?_
  refine va_sld hx hb hX hbl hbA hS h_4 dL_law_1140 ?_
  refine lbz hx hb dL_law_1141 dL_law_1144 dL_law_1145 dL_law_1148 ?_
  refine lv_aload_n hx hb dL_law_1149 rfl (lv_at hl 0 rfl) ?_
  refine lv_iload_n hx hb dL_law_1150 rfl (lv_at hl 3 rfl) ?_
  refine lv_iconst (v := (5 : Int32)) hx hb dL_law_1151 (by decide) ?_
  refine lv_iadd hx hb dL_law_1152 ?_
  refine va_sld hx hb hX hbl hbA hS h_5 dL_law_1153 ?_
  refine lx_deal X hK hP hD hS h1 hl.1 dL_law_1154 (fun H locs hP hD hS => ?_)
  refine lv_aload_n hx hb dL_law_1157 rfl (lv_at hl 2 rfl) ?_
  refine lv_aload_n hx hb dL_law_1158 rfl (lv_at hl 0 rfl) ?_
  refine lv_iload_n hx hb dL_law_1159 rfl (lv_at hl 3 rfl) ?_
  refine lv_iconst (v := (1 : Int32)) hx hb dL_law_1160 (by decide) ?_
  refine lv_iadd hx hb dL_law_1161 ?_
  refine va_sld hx hb hX hbl hbA hS h_1 dL_law_1162 ?_
  refine lv_aload_n hx hb dL_law_1163 rfl (lv_at hl 0 rfl) ?_
  refine lv_iload_n hx hb dL_law_1164 rfl (lv_at hl 3 rfl) ?_
  refine lv_iconst (v := (2 : Int32)) hx hb dL_law_1165 (by decide) ?_
  refine lv_iadd hx hb dL_law_1166 ?_
  refine va_sld hx hb hX hbl hbA hS h_2 dL_law_1167 ?_
  refine lv_aload_n hx hb dL_law_1168 rfl (lv_at hl 0 rfl) ?_
  refine lv_iload_n hx hb dL_law_1169 rfl (lv_at hl 3 rfl) ?_
  refine lv_iconst (v := (3 : Int32)) hx hb dL_law_1170 (by decide) ?_
  refine lv_iadd hx hb dL_law_1171 ?_
  refine va_sld hx hb hX hbl hbA hS h_3 dL_law_1172 ?_
  refine lv_aload_n hx hb dL_law_1173 rfl (lv_at hl 0 rfl) ?_
  refine lv_iload_n hx hb dL_law_1174 rfl (lv_at hl 3 rfl) ?_
  refine lv_iconst (v := (4 : Int32)) hx hb dL_law_1175 (by decide) ?_
  refine lv_iadd hx hb dL_law_1176 ?_
  refine va_sld hx hb hX hbl hbA hS h_4 dL_law_1177 ?_
  refine lbz hx hb dL_law_1178 dL_law_1181 dL_law_1182 dL_law_1185 ?_
  refine lv_aload_n hx hb dL_law_1186 rfl (lv_at hl 0 rfl) ?_
  refine lv_iload_n hx hb dL_law_1187 rfl (lv_at hl 3 rfl) ?_
  refine lv_iconst (v := (5 : Int32)) hx hb dL_law_1188 (by decide) ?_
  refine lv_iadd hx hb dL_law_1189 ?_
  refine va_sld hx hb hX hbl hbA hS h_5 dL_law_1190 ?_
  refine lm_deal X hK hP hD hS h2 hl.1 dL_law_1191 (fun H locs hP hD hS => ?_)
  refine lv_icmp_eq (tgt := 1199) hx hb dL_law_1194 (by decide) (fun _ => ?_) (fun c9 => absurd he c9)
  exact back _ _ _ _ _ _ hI2 hP hD hS
end LAWCASES
