section LAWCASES
variable {p : Program} {l : Launch} {e : Env} {s : State} {m : MethodId} {below : List Frame} {meth : Method} {c : Code} {H : Heap} {locs : List Loc} {D : va_G} {cI cZ cR : ClassId} {b L : Nat} {xs : Nat → Int32} {adK adV ad : Nat → Nat} {I : Nat → Int32} {R : Nat → Nat → Int32} {J : Nat → Int32} {Q : Nat → Nat → Int32} {ls : Array Slot} {i : Nat}
set_option maxHeartbeats 4000000 in
set_option maxRecDepth 100000 in
theorem cs_through_0 (X : cx p s m #[Value.ref b] meth c code 4 ret RL lw_tbl) (hK : va_K D vwCl (ty3 cI cZ cR) s) (hX : va_X b L xs s s.heap) (hbl : b < s.heap.size) (hi : i + 6 ≤ L) (hL : L ≤ 3072) (hI : Inv I R J Q) (hP : va_P D vwCl (wX cI cZ cR ad I R ++ wM cI cZ cR ad J Q) H) (hD : va_D (lA s) (wX cI cZ cR ad I R ++ wM cI cZ cR ad J Q)) (hS : va_S (lA s) s.heap H locs) (hl : lv_has ls 4 [(0, .ref b), (1, .ref (ad 0)), (2, .ref (ad 70)), (3, .int (nI i))]) (hs1 : vp_in (xs (nI i + 1).toNatClampNeg) 4 → ((xs (nI i + 1).toNatClampNeg)).toNatClampNeg = 0) (hs2 : ∀ q, q < 4 → (xs (nI i + 1).toNatClampNeg) = nI q → q = 0) (back : Back p l e s m below meth c b D cI cZ cR ad ls) : LW p l e s m below meth c b H locs 899 ls [] := by
  obtain ⟨hx, hb, hml, hr, hown, hts, hlocks, hN⟩ := id X
  have hbA : ¬ lA s b := Nat.not_le.mpr hbl
  have h_1 : vp_in (nI i + 1) L := sin_ok (k := 1) hi hL (by decide)
  have h_2 : vp_in (nI i + 2) L := sin_ok (k := 2) hi hL (by decide)
  have h_3 : vp_in (nI i + 3) L := sin_ok (k := 3) hi hL (by decide)
  have h_4 : vp_in (nI i + 4) L := sin_ok (k := 4) hi hL (by decide)
  have h_5 : vp_in (nI i + 5) L := sin_ok (k := 5) hi hL (by decide)
  obtain ⟨o1, h1, o2, h2, he, hI2⟩ := st_through_0 hI (xs (nI i + 1).toNatClampNeg) (xs (nI i + 2).toNatClampNeg) (xs (nI i + 3).toNatClampNeg) (bz (xs (nI i + 4).toNatClampNeg)) (xs (nI i + 5).toNatClampNeg) hs2
  refine lv_aload_n hx hb dL_law_899 rfl (lv_at hl 1 rfl) ?_
  refine lv_aload_n hx hb dL_law_900 rfl (lv_at hl 0 rfl) ?_
  refine lv_iload_n hx hb dL_law_901 rfl (lv_at hl 3 rfl) ?_
  refine lv_iconst (v := (1 : Int32)) hx hb dL_law_902 (by decide) ?_
  refine lv_iadd hx hb dL_law_903 ?_
  refine va_sld hx hb hX hbl hbA hS h_1 dL_law_904 ?_
  refine lv_aload_n hx hb dL_law_905 rfl (lv_at hl 0 rfl) ?_
  refine lv_iload_n hx hb dL_law_906 rfl (lv_at hl 3 rfl) ?_
  refine lv_iconst (v := (2 : Int32)) hx hb dL_law_907 (by decide) ?_
  refine lv_iadd hx hb dL_law_908 ?_
  refine va_sld hx hb hX hbl hbA hS h_2 dL_law_909 ?_
  refine lv_aload_n hx hb dL_law_910 rfl (lv_at hl 0 rfl) ?_
  refine lv_iload_n hx hb dL_law_911 rfl (lv_at hl 3 rfl) ?_
  refine lv_iconst (v := (3 : Int32)) hx hb dL_law_912 (by decide) ?_
  refine lv_iadd hx hb dL_law_913 ?_
  refine va_sld hx hb hX hbl hbA hS h_3 dL_law_914 ?_
  refine lv_aload_n hx hb dL_law_915 rfl (lv_at hl 0 rfl) ?_
  refine lv_iload_n hx hb dL_law_916 rfl (lv_at hl 3 rfl) ?_
  refine lv_iconst (v := (4 : Int32)) hx hb dL_law_917 (by decide) ?_
  refine lv_iadd hx hb dL_law_918 ?_
  refine va_sld hx hb hX hbl hbA hS h_4 dL_law_919 ?_
  refine lbz hx hb dL_law_920 dL_law_923 dL_law_924 dL_law_927 ?_
  refine lv_aload_n hx hb dL_law_928 rfl (lv_at hl 0 rfl) ?_
  refine lv_iload_n hx hb dL_law_929 rfl (lv_at hl 3 rfl) ?_
  refine lv_iconst (v := (5 : Int32)) hx hb dL_law_930 (by decide) ?_
  refine lv_iadd hx hb dL_law_931 ?_
  refine va_sld hx hb hX hbl hbA hS h_5 dL_law_932 ?_
  refine lx_through_0 X hK hP hD hS hs1 h1 hl.1 dL_law_933 (fun H locs hP hD hS => ?_)
  refine lv_aload_n hx hb dL_law_936 rfl (lv_at hl 2 rfl) ?_
  refine lv_aload_n hx hb dL_law_937 rfl (lv_at hl 0 rfl) ?_
  refine lv_iload_n hx hb dL_law_938 rfl (lv_at hl 3 rfl) ?_
  refine lv_iconst (v := (1 : Int32)) hx hb dL_law_939 (by decide) ?_
  refine lv_iadd hx hb dL_law_940 ?_
  refine va_sld hx hb hX hbl hbA hS h_1 dL_law_941 ?_
  refine lv_aload_n hx hb dL_law_942 rfl (lv_at hl 0 rfl) ?_
  refine lv_iload_n hx hb dL_law_943 rfl (lv_at hl 3 rfl) ?_
  refine lv_iconst (v := (2 : Int32)) hx hb dL_law_944 (by decide) ?_
  refine lv_iadd hx hb dL_law_945 ?_
  refine va_sld hx hb hX hbl hbA hS h_2 dL_law_946 ?_
  refine lv_aload_n hx hb dL_law_947 rfl (lv_at hl 0 rfl) ?_
  refine lv_iload_n hx hb dL_law_948 rfl (lv_at hl 3 rfl) ?_
  refine lv_iconst (v := (3 : Int32)) hx hb dL_law_949 (by decide) ?_
  refine lv_iadd hx hb dL_law_950 ?_
  refine va_sld hx hb hX hbl hbA hS h_3 dL_law_951 ?_
  refine lv_aload_n hx hb dL_law_952 rfl (lv_at hl 0 rfl) ?_
  refine lv_iload_n hx hb dL_law_953 rfl (lv_at hl 3 rfl) ?_
  refine lv_iconst (v := (4 : Int32)) hx hb dL_law_954 (by decide) ?_
  refine lv_iadd hx hb dL_law_955 ?_
  refine va_sld hx hb hX hbl hbA hS h_4 dL_law_956 ?_
  refine lbz hx hb dL_law_957 dL_law_960 dL_law_961 dL_law_964 ?_
  refine lv_aload_n hx hb dL_law_965 rfl (lv_at hl 0 rfl) ?_
  refine lv_iload_n hx hb dL_law_966 rfl (lv_at hl 3 rfl) ?_
  refine lv_iconst (v := (5 : Int32)) hx hb dL_law_967 (by decide) ?_
  refine lv_iadd hx hb dL_law_968 ?_
  refine va_sld hx hb hX hbl hbA hS h_5 dL_law_969 ?_
  refine lm_through X hK hP hD hS h2 hl.1 dL_law_970 (fun H locs hP hD hS => ?_)
  refine lv_icmp_eq (tgt := 1199) hx hb dL_law_973 (by decide) (fun _ => ?_) (fun c9 => absurd he c9)
  exact back _ _ _ _ _ _ hI2 hP hD hS
set_option maxHeartbeats 4000000 in
set_option maxRecDepth 100000 in
theorem cs_through_1 (X : cx p s m #[Value.ref b] meth c code 4 ret RL lw_tbl) (hK : va_K D vwCl (ty3 cI cZ cR) s) (hX : va_X b L xs s s.heap) (hbl : b < s.heap.size) (hi : i + 6 ≤ L) (hL : L ≤ 3072) (hI : Inv I R J Q) (hP : va_P D vwCl (wX cI cZ cR ad I R ++ wM cI cZ cR ad J Q) H) (hD : va_D (lA s) (wX cI cZ cR ad I R ++ wM cI cZ cR ad J Q)) (hS : va_S (lA s) s.heap H locs) (hl : lv_has ls 4 [(0, .ref b), (1, .ref (ad 0)), (2, .ref (ad 70)), (3, .int (nI i))]) (hs1 : vp_in (xs (nI i + 1).toNatClampNeg) 4 → ((xs (nI i + 1).toNatClampNeg)).toNatClampNeg = 1) (hs2 : ∀ q, q < 4 → (xs (nI i + 1).toNatClampNeg) = nI q → q = 1) (back : Back p l e s m below meth c b D cI cZ cR ad ls) : LW p l e s m below meth c b H locs 899 ls [] := by
  obtain ⟨hx, hb, hml, hr, hown, hts, hlocks, hN⟩ := id X
  have hbA : ¬ lA s b := Nat.not_le.mpr hbl
  have h_1 : vp_in (nI i + 1) L := sin_ok (k := 1) hi hL (by decide)
  have h_2 : vp_in (nI i + 2) L := sin_ok (k := 2) hi hL (by decide)
  have h_3 : vp_in (nI i + 3) L := sin_ok (k := 3) hi hL (by decide)
  have h_4 : vp_in (nI i + 4) L := sin_ok (k := 4) hi hL (by decide)
  have h_5 : vp_in (nI i + 5) L := sin_ok (k := 5) hi hL (by decide)
  obtain ⟨o1, h1, o2, h2, he, hI2⟩ := st_through_1 hI (xs (nI i + 1).toNatClampNeg) (xs (nI i + 2).toNatClampNeg) (xs (nI i + 3).toNatClampNeg) (bz (xs (nI i + 4).toNatClampNeg)) (xs (nI i + 5).toNatClampNeg) hs2
  refine lv_aload_n hx hb dL_law_899 rfl (lv_at hl 1 rfl) ?_
  refine lv_aload_n hx hb dL_law_900 rfl (lv_at hl 0 rfl) ?_
  refine lv_iload_n hx hb dL_law_901 rfl (lv_at hl 3 rfl) ?_
  refine lv_iconst (v := (1 : Int32)) hx hb dL_law_902 (by decide) ?_
  refine lv_iadd hx hb dL_law_903 ?_
  refine va_sld hx hb hX hbl hbA hS h_1 dL_law_904 ?_
  refine lv_aload_n hx hb dL_law_905 rfl (lv_at hl 0 rfl) ?_
  refine lv_iload_n hx hb dL_law_906 rfl (lv_at hl 3 rfl) ?_
  refine lv_iconst (v := (2 : Int32)) hx hb dL_law_907 (by decide) ?_
  refine lv_iadd hx hb dL_law_908 ?_
  refine va_sld hx hb hX hbl hbA hS h_2 dL_law_909 ?_
  refine lv_aload_n hx hb dL_law_910 rfl (lv_at hl 0 rfl) ?_
  refine lv_iload_n hx hb dL_law_911 rfl (lv_at hl 3 rfl) ?_
  refine lv_iconst (v := (3 : Int32)) hx hb dL_law_912 (by decide) ?_
  refine lv_iadd hx hb dL_law_913 ?_
  refine va_sld hx hb hX hbl hbA hS h_3 dL_law_914 ?_
  refine lv_aload_n hx hb dL_law_915 rfl (lv_at hl 0 rfl) ?_
  refine lv_iload_n hx hb dL_law_916 rfl (lv_at hl 3 rfl) ?_
  refine lv_iconst (v := (4 : Int32)) hx hb dL_law_917 (by decide) ?_
  refine lv_iadd hx hb dL_law_918 ?_
  refine va_sld hx hb hX hbl hbA hS h_4 dL_law_919 ?_
  refine lbz hx hb dL_law_920 dL_law_923 dL_law_924 dL_law_927 ?_
  refine lv_aload_n hx hb dL_law_928 rfl (lv_at hl 0 rfl) ?_
  refine lv_iload_n hx hb dL_law_929 rfl (lv_at hl 3 rfl) ?_
  refine lv_iconst (v := (5 : Int32)) hx hb dL_law_930 (by decide) ?_
  refine lv_iadd hx hb dL_law_931 ?_
  refine va_sld hx hb hX hbl hbA hS h_5 dL_law_932 ?_
  refine lx_through_1 X hK hP hD hS hs1 h1 hl.1 dL_law_933 (fun H locs hP hD hS => ?_)
  refine lv_aload_n hx hb dL_law_936 rfl (lv_at hl 2 rfl) ?_
  refine lv_aload_n hx hb dL_law_937 rfl (lv_at hl 0 rfl) ?_
  refine lv_iload_n hx hb dL_law_938 rfl (lv_at hl 3 rfl) ?_
  refine lv_iconst (v := (1 : Int32)) hx hb dL_law_939 (by decide) ?_
  refine lv_iadd hx hb dL_law_940 ?_
  refine va_sld hx hb hX hbl hbA hS h_1 dL_law_941 ?_
  refine lv_aload_n hx hb dL_law_942 rfl (lv_at hl 0 rfl) ?_
  refine lv_iload_n hx hb dL_law_943 rfl (lv_at hl 3 rfl) ?_
  refine lv_iconst (v := (2 : Int32)) hx hb dL_law_944 (by decide) ?_
  refine lv_iadd hx hb dL_law_945 ?_
  refine va_sld hx hb hX hbl hbA hS h_2 dL_law_946 ?_
  refine lv_aload_n hx hb dL_law_947 rfl (lv_at hl 0 rfl) ?_
  refine lv_iload_n hx hb dL_law_948 rfl (lv_at hl 3 rfl) ?_
  refine lv_iconst (v := (3 : Int32)) hx hb dL_law_949 (by decide) ?_
  refine lv_iadd hx hb dL_law_950 ?_
  refine va_sld hx hb hX hbl hbA hS h_3 dL_law_951 ?_
  refine lv_aload_n hx hb dL_law_952 rfl (lv_at hl 0 rfl) ?_
  refine lv_iload_n hx hb dL_law_953 rfl (lv_at hl 3 rfl) ?_
  refine lv_iconst (v := (4 : Int32)) hx hb dL_law_954 (by decide) ?_
  refine lv_iadd hx hb dL_law_955 ?_
  refine va_sld hx hb hX hbl hbA hS h_4 dL_law_956 ?_
  refine lbz hx hb dL_law_957 dL_law_960 dL_law_961 dL_law_964 ?_
  refine lv_aload_n hx hb dL_law_965 rfl (lv_at hl 0 rfl) ?_
  refine lv_iload_n hx hb dL_law_966 rfl (lv_at hl 3 rfl) ?_
  refine lv_iconst (v := (5 : Int32)) hx hb dL_law_967 (by decide) ?_
  refine lv_iadd hx hb dL_law_968 ?_
  refine va_sld hx hb hX hbl hbA hS h_5 dL_law_969 ?_
  refine lm_through X hK hP hD hS h2 hl.1 dL_law_970 (fun H locs hP hD hS => ?_)
  refine lv_icmp_eq (tgt := 1199) hx hb dL_law_973 (by decide) (fun _ => ?_) (fun c9 => absurd he c9)
  exact back _ _ _ _ _ _ hI2 hP hD hS
set_option maxHeartbeats 4000000 in
set_option maxRecDepth 100000 in
theorem cs_through_2 (X : cx p s m #[Value.ref b] meth c code 4 ret RL lw_tbl) (hK : va_K D vwCl (ty3 cI cZ cR) s) (hX : va_X b L xs s s.heap) (hbl : b < s.heap.size) (hi : i + 6 ≤ L) (hL : L ≤ 3072) (hI : Inv I R J Q) (hP : va_P D vwCl (wX cI cZ cR ad I R ++ wM cI cZ cR ad J Q) H) (hD : va_D (lA s) (wX cI cZ cR ad I R ++ wM cI cZ cR ad J Q)) (hS : va_S (lA s) s.heap H locs) (hl : lv_has ls 4 [(0, .ref b), (1, .ref (ad 0)), (2, .ref (ad 70)), (3, .int (nI i))]) (hs1 : vp_in (xs (nI i + 1).toNatClampNeg) 4 → ((xs (nI i + 1).toNatClampNeg)).toNatClampNeg = 2) (hs2 : ∀ q, q < 4 → (xs (nI i + 1).toNatClampNeg) = nI q → q = 2) (back : Back p l e s m below meth c b D cI cZ cR ad ls) : LW p l e s m below meth c b H locs 899 ls [] := by
  obtain ⟨hx, hb, hml, hr, hown, hts, hlocks, hN⟩ := id X
  have hbA : ¬ lA s b := Nat.not_le.mpr hbl
  have h_1 : vp_in (nI i + 1) L := sin_ok (k := 1) hi hL (by decide)
  have h_2 : vp_in (nI i + 2) L := sin_ok (k := 2) hi hL (by decide)
  have h_3 : vp_in (nI i + 3) L := sin_ok (k := 3) hi hL (by decide)
  have h_4 : vp_in (nI i + 4) L := sin_ok (k := 4) hi hL (by decide)
  have h_5 : vp_in (nI i + 5) L := sin_ok (k := 5) hi hL (by decide)
  obtain ⟨o1, h1, o2, h2, he, hI2⟩ := st_through_2 hI (xs (nI i + 1).toNatClampNeg) (xs (nI i + 2).toNatClampNeg) (xs (nI i + 3).toNatClampNeg) (bz (xs (nI i + 4).toNatClampNeg)) (xs (nI i + 5).toNatClampNeg) hs2
  refine lv_aload_n hx hb dL_law_899 rfl (lv_at hl 1 rfl) ?_
  refine lv_aload_n hx hb dL_law_900 rfl (lv_at hl 0 rfl) ?_
  refine lv_iload_n hx hb dL_law_901 rfl (lv_at hl 3 rfl) ?_
  refine lv_iconst (v := (1 : Int32)) hx hb dL_law_902 (by decide) ?_
  refine lv_iadd hx hb dL_law_903 ?_
  refine va_sld hx hb hX hbl hbA hS h_1 dL_law_904 ?_
  refine lv_aload_n hx hb dL_law_905 rfl (lv_at hl 0 rfl) ?_
  refine lv_iload_n hx hb dL_law_906 rfl (lv_at hl 3 rfl) ?_
  refine lv_iconst (v := (2 : Int32)) hx hb dL_law_907 (by decide) ?_
  refine lv_iadd hx hb dL_law_908 ?_
  refine va_sld hx hb hX hbl hbA hS h_2 dL_law_909 ?_
  refine lv_aload_n hx hb dL_law_910 rfl (lv_at hl 0 rfl) ?_
  refine lv_iload_n hx hb dL_law_911 rfl (lv_at hl 3 rfl) ?_
  refine lv_iconst (v := (3 : Int32)) hx hb dL_law_912 (by decide) ?_
  refine lv_iadd hx hb dL_law_913 ?_
  refine va_sld hx hb hX hbl hbA hS h_3 dL_law_914 ?_
  refine lv_aload_n hx hb dL_law_915 rfl (lv_at hl 0 rfl) ?_
  refine lv_iload_n hx hb dL_law_916 rfl (lv_at hl 3 rfl) ?_
  refine lv_iconst (v := (4 : Int32)) hx hb dL_law_917 (by decide) ?_
  refine lv_iadd hx hb dL_law_918 ?_
  refine va_sld hx hb hX hbl hbA hS h_4 dL_law_919 ?_
  refine lbz hx hb dL_law_920 dL_law_923 dL_law_924 dL_law_927 ?_
  refine lv_aload_n hx hb dL_law_928 rfl (lv_at hl 0 rfl) ?_
  refine lv_iload_n hx hb dL_law_929 rfl (lv_at hl 3 rfl) ?_
  refine lv_iconst (v := (5 : Int32)) hx hb dL_law_930 (by decide) ?_
  refine lv_iadd hx hb dL_law_931 ?_
  refine va_sld hx hb hX hbl hbA hS h_5 dL_law_932 ?_
  refine lx_through_2 X hK hP hD hS hs1 h1 hl.1 dL_law_933 (fun H locs hP hD hS => ?_)
  refine lv_aload_n hx hb dL_law_936 rfl (lv_at hl 2 rfl) ?_
  refine lv_aload_n hx hb dL_law_937 rfl (lv_at hl 0 rfl) ?_
  refine lv_iload_n hx hb dL_law_938 rfl (lv_at hl 3 rfl) ?_
  refine lv_iconst (v := (1 : Int32)) hx hb dL_law_939 (by decide) ?_
  refine lv_iadd hx hb dL_law_940 ?_
  refine va_sld hx hb hX hbl hbA hS h_1 dL_law_941 ?_
  refine lv_aload_n hx hb dL_law_942 rfl (lv_at hl 0 rfl) ?_
  refine lv_iload_n hx hb dL_law_943 rfl (lv_at hl 3 rfl) ?_
  refine lv_iconst (v := (2 : Int32)) hx hb dL_law_944 (by decide) ?_
  refine lv_iadd hx hb dL_law_945 ?_
  refine va_sld hx hb hX hbl hbA hS h_2 dL_law_946 ?_
  refine lv_aload_n hx hb dL_law_947 rfl (lv_at hl 0 rfl) ?_
  refine lv_iload_n hx hb dL_law_948 rfl (lv_at hl 3 rfl) ?_
  refine lv_iconst (v := (3 : Int32)) hx hb dL_law_949 (by decide) ?_
  refine lv_iadd hx hb dL_law_950 ?_
  refine va_sld hx hb hX hbl hbA hS h_3 dL_law_951 ?_
  refine lv_aload_n hx hb dL_law_952 rfl (lv_at hl 0 rfl) ?_
  refine lv_iload_n hx hb dL_law_953 rfl (lv_at hl 3 rfl) ?_
  refine lv_iconst (v := (4 : Int32)) hx hb dL_law_954 (by decide) ?_
  refine lv_iadd hx hb dL_law_955 ?_
  refine va_sld hx hb hX hbl hbA hS h_4 dL_law_956 ?_
  refine lbz hx hb dL_law_957 dL_law_960 dL_law_961 dL_law_964 ?_
  refine lv_aload_n hx hb dL_law_965 rfl (lv_at hl 0 rfl) ?_
  refine lv_iload_n hx hb dL_law_966 rfl (lv_at hl 3 rfl) ?_
  refine lv_iconst (v := (5 : Int32)) hx hb dL_law_967 (by decide) ?_
  refine lv_iadd hx hb dL_law_968 ?_
  refine va_sld hx hb hX hbl hbA hS h_5 dL_law_969 ?_
  refine lm_through X hK hP hD hS h2 hl.1 dL_law_970 (fun H locs hP hD hS => ?_)
  refine lv_icmp_eq (tgt := 1199) hx hb dL_law_973 (by decide) (fun _ => ?_) (fun c9 => absurd he c9)
  exact back _ _ _ _ _ _ hI2 hP hD hS
set_option maxHeartbeats 4000000 in
set_option maxRecDepth 100000 in
theorem cs_through_3 (X : cx p s m #[Value.ref b] meth c code 4 ret RL lw_tbl) (hK : va_K D vwCl (ty3 cI cZ cR) s) (hX : va_X b L xs s s.heap) (hbl : b < s.heap.size) (hi : i + 6 ≤ L) (hL : L ≤ 3072) (hI : Inv I R J Q) (hP : va_P D vwCl (wX cI cZ cR ad I R ++ wM cI cZ cR ad J Q) H) (hD : va_D (lA s) (wX cI cZ cR ad I R ++ wM cI cZ cR ad J Q)) (hS : va_S (lA s) s.heap H locs) (hl : lv_has ls 4 [(0, .ref b), (1, .ref (ad 0)), (2, .ref (ad 70)), (3, .int (nI i))]) (hs1 : vp_in (xs (nI i + 1).toNatClampNeg) 4 → ((xs (nI i + 1).toNatClampNeg)).toNatClampNeg = 3) (hs2 : ∀ q, q < 4 → (xs (nI i + 1).toNatClampNeg) = nI q → q = 3) (back : Back p l e s m below meth c b D cI cZ cR ad ls) : LW p l e s m below meth c b H locs 899 ls [] := by
  obtain ⟨hx, hb, hml, hr, hown, hts, hlocks, hN⟩ := id X
  have hbA : ¬ lA s b := Nat.not_le.mpr hbl
  have h_1 : vp_in (nI i + 1) L := sin_ok (k := 1) hi hL (by decide)
  have h_2 : vp_in (nI i + 2) L := sin_ok (k := 2) hi hL (by decide)
  have h_3 : vp_in (nI i + 3) L := sin_ok (k := 3) hi hL (by decide)
  have h_4 : vp_in (nI i + 4) L := sin_ok (k := 4) hi hL (by decide)
  have h_5 : vp_in (nI i + 5) L := sin_ok (k := 5) hi hL (by decide)
  obtain ⟨o1, h1, o2, h2, he, hI2⟩ := st_through_3 hI (xs (nI i + 1).toNatClampNeg) (xs (nI i + 2).toNatClampNeg) (xs (nI i + 3).toNatClampNeg) (bz (xs (nI i + 4).toNatClampNeg)) (xs (nI i + 5).toNatClampNeg) hs2
  refine lv_aload_n hx hb dL_law_899 rfl (lv_at hl 1 rfl) ?_
  refine lv_aload_n hx hb dL_law_900 rfl (lv_at hl 0 rfl) ?_
  refine lv_iload_n hx hb dL_law_901 rfl (lv_at hl 3 rfl) ?_
  refine lv_iconst (v := (1 : Int32)) hx hb dL_law_902 (by decide) ?_
  refine lv_iadd hx hb dL_law_903 ?_
  refine va_sld hx hb hX hbl hbA hS h_1 dL_law_904 ?_
  refine lv_aload_n hx hb dL_law_905 rfl (lv_at hl 0 rfl) ?_
  refine lv_iload_n hx hb dL_law_906 rfl (lv_at hl 3 rfl) ?_
  refine lv_iconst (v := (2 : Int32)) hx hb dL_law_907 (by decide) ?_
  refine lv_iadd hx hb dL_law_908 ?_
  refine va_sld hx hb hX hbl hbA hS h_2 dL_law_909 ?_
  refine lv_aload_n hx hb dL_law_910 rfl (lv_at hl 0 rfl) ?_
  refine lv_iload_n hx hb dL_law_911 rfl (lv_at hl 3 rfl) ?_
  refine lv_iconst (v := (3 : Int32)) hx hb dL_law_912 (by decide) ?_
  refine lv_iadd hx hb dL_law_913 ?_
  refine va_sld hx hb hX hbl hbA hS h_3 dL_law_914 ?_
  refine lv_aload_n hx hb dL_law_915 rfl (lv_at hl 0 rfl) ?_
  refine lv_iload_n hx hb dL_law_916 rfl (lv_at hl 3 rfl) ?_
  refine lv_iconst (v := (4 : Int32)) hx hb dL_law_917 (by decide) ?_
  refine lv_iadd hx hb dL_law_918 ?_
  refine va_sld hx hb hX hbl hbA hS h_4 dL_law_919 ?_
  refine lbz hx hb dL_law_920 dL_law_923 dL_law_924 dL_law_927 ?_
  refine lv_aload_n hx hb dL_law_928 rfl (lv_at hl 0 rfl) ?_
  refine lv_iload_n hx hb dL_law_929 rfl (lv_at hl 3 rfl) ?_
  refine lv_iconst (v := (5 : Int32)) hx hb dL_law_930 (by decide) ?_
  refine lv_iadd hx hb dL_law_931 ?_
  refine va_sld hx hb hX hbl hbA hS h_5 dL_law_932 ?_
  refine lx_through_3 X hK hP hD hS hs1 h1 hl.1 dL_law_933 (fun H locs hP hD hS => ?_)
  refine lv_aload_n hx hb dL_law_936 rfl (lv_at hl 2 rfl) ?_
  refine lv_aload_n hx hb dL_law_937 rfl (lv_at hl 0 rfl) ?_
  refine lv_iload_n hx hb dL_law_938 rfl (lv_at hl 3 rfl) ?_
  refine lv_iconst (v := (1 : Int32)) hx hb dL_law_939 (by decide) ?_
  refine lv_iadd hx hb dL_law_940 ?_
  refine va_sld hx hb hX hbl hbA hS h_1 dL_law_941 ?_
  refine lv_aload_n hx hb dL_law_942 rfl (lv_at hl 0 rfl) ?_
  refine lv_iload_n hx hb dL_law_943 rfl (lv_at hl 3 rfl) ?_
  refine lv_iconst (v := (2 : Int32)) hx hb dL_law_944 (by decide) ?_
  refine lv_iadd hx hb dL_law_945 ?_
  refine va_sld hx hb hX hbl hbA hS h_2 dL_law_946 ?_
  refine lv_aload_n hx hb dL_law_947 rfl (lv_at hl 0 rfl) ?_
  refine lv_iload_n hx hb dL_law_948 rfl (lv_at hl 3 rfl) ?_
  refine lv_iconst (v := (3 : Int32)) hx hb dL_law_949 (by decide) ?_
  refine lv_iadd hx hb dL_law_950 ?_
  refine va_sld hx hb hX hbl hbA hS h_3 dL_law_951 ?_
  refine lv_aload_n hx hb dL_law_952 rfl (lv_at hl 0 rfl) ?_
  refine lv_iload_n hx hb dL_law_953 rfl (lv_at hl 3 rfl) ?_
  refine lv_iconst (v := (4 : Int32)) hx hb dL_law_954 (by decide) ?_
  refine lv_iadd hx hb dL_law_955 ?_
  refine va_sld hx hb hX hbl hbA hS h_4 dL_law_956 ?_
  refine lbz hx hb dL_law_957 dL_law_960 dL_law_961 dL_law_964 ?_
  refine lv_aload_n hx hb dL_law_965 rfl (lv_at hl 0 rfl) ?_
  refine lv_iload_n hx hb dL_law_966 rfl (lv_at hl 3 rfl) ?_
  refine lv_iconst (v := (5 : Int32)) hx hb dL_law_967 (by decide) ?_
  refine lv_iadd hx hb dL_law_968 ?_
  refine va_sld hx hb hX hbl hbA hS h_5 dL_law_969 ?_
  refine lm_through X hK hP hD hS h2 hl.1 dL_law_970 (fun H locs hP hD hS => ?_)
  refine lv_icmp_eq (tgt := 1199) hx hb dL_law_973 (by decide) (fun _ => ?_) (fun c9 => absurd he c9)
  exact back _ _ _ _ _ _ hI2 hP hD hS
set_option maxHeartbeats 4000000 in
set_option maxRecDepth 100000 in
theorem cs_best_0 (X : cx p s m #[Value.ref b] meth c code 4 ret RL lw_tbl) (hK : va_K D vwCl (ty3 cI cZ cR) s) (hX : va_X b L xs s s.heap) (hbl : b < s.heap.size) (hi : i + 6 ≤ L) (hL : L ≤ 3072) (hI : Inv I R J Q) (hP : va_P D vwCl (wX cI cZ cR ad I R ++ wM cI cZ cR ad J Q) H) (hD : va_D (lA s) (wX cI cZ cR ad I R ++ wM cI cZ cR ad J Q)) (hS : va_S (lA s) s.heap H locs) (hl : lv_has ls 4 [(0, .ref b), (1, .ref (ad 0)), (2, .ref (ad 70)), (3, .int (nI i))]) (hs1 : vp_in (xs (nI i + 1).toNatClampNeg) 4 → ((xs (nI i + 1).toNatClampNeg)).toNatClampNeg = 0) (hs2 : ∀ q, q < 4 → (xs (nI i + 1).toNatClampNeg) = nI q → q = 0) (back : Back p l e s m below meth c b D cI cZ cR ad ls) : LW p l e s m below meth c b H locs 978 ls [] := by
  obtain ⟨hx, hb, hml, hr, hown, hts, hlocks, hN⟩ := id X
  have hbA : ¬ lA s b := Nat.not_le.mpr hbl
  have h_1 : vp_in (nI i + 1) L := sin_ok (k := 1) hi hL (by decide)
  have h_2 : vp_in (nI i + 2) L := sin_ok (k := 2) hi hL (by decide)
  obtain ⟨o1, h1, o2, h2, he, hI2⟩ := st_best_0 hI (xs (nI i + 1).toNatClampNeg) (xs (nI i + 2).toNatClampNeg) hs2
  refine lv_aload_n hx hb dL_law_978 rfl (lv_at hl 1 rfl) ?_
  refine lv_aload_n hx hb dL_law_979 rfl (lv_at hl 0 rfl) ?_
  refine lv_iload_n hx hb dL_law_980 rfl (lv_at hl 3 rfl) ?_
  refine lv_iconst (v := (1 : Int32)) hx hb dL_law_981 (by decide) ?_
  refine lv_iadd hx hb dL_law_982 ?_
  refine va_sld hx hb hX hbl hbA hS h_1 dL_law_983 ?_
  refine lv_aload_n hx hb dL_law_984 rfl (lv_at hl 0 rfl) ?_
  refine lv_iload_n hx hb dL_law_985 rfl (lv_at hl 3 rfl) ?_
  refine lv_iconst (v := (2 : Int32)) hx hb dL_law_986 (by decide) ?_
  refine lv_iadd hx hb dL_law_987 ?_
  refine va_sld hx hb hX hbl hbA hS h_2 dL_law_988 ?_
  refine lx_best_0 X hK hP hD hS hs1 h1 hl.1 dL_law_989 (fun H locs hP hD hS => ?_)
  refine lv_aload_n hx hb dL_law_992 rfl (lv_at hl 2 rfl) ?_
  refine lv_aload_n hx hb dL_law_993 rfl (lv_at hl 0 rfl) ?_
  refine lv_iload_n hx hb dL_law_994 rfl (lv_at hl 3 rfl) ?_
  refine lv_iconst (v := (1 : Int32)) hx hb dL_law_995 (by decide) ?_
  refine lv_iadd hx hb dL_law_996 ?_
  refine va_sld hx hb hX hbl hbA hS h_1 dL_law_997 ?_
  refine lv_aload_n hx hb dL_law_998 rfl (lv_at hl 0 rfl) ?_
  refine lv_iload_n hx hb dL_law_999 rfl (lv_at hl 3 rfl) ?_
  refine lv_iconst (v := (2 : Int32)) hx hb dL_law_1000 (by decide) ?_
  refine lv_iadd hx hb dL_law_1001 ?_
  refine va_sld hx hb hX hbl hbA hS h_2 dL_law_1002 ?_
  refine lm_best X hK hP hD hS h2 hl.1 dL_law_1003 (fun H locs hP hD hS => ?_)
  refine lv_icmp_eq (tgt := 1199) hx hb dL_law_1006 (by decide) (fun _ => ?_) (fun c9 => absurd he c9)
  exact back _ _ _ _ _ _ hI2 hP hD hS
set_option maxHeartbeats 4000000 in
set_option maxRecDepth 100000 in
theorem cs_best_1 (X : cx p s m #[Value.ref b] meth c code 4 ret RL lw_tbl) (hK : va_K D vwCl (ty3 cI cZ cR) s) (hX : va_X b L xs s s.heap) (hbl : b < s.heap.size) (hi : i + 6 ≤ L) (hL : L ≤ 3072) (hI : Inv I R J Q) (hP : va_P D vwCl (wX cI cZ cR ad I R ++ wM cI cZ cR ad J Q) H) (hD : va_D (lA s) (wX cI cZ cR ad I R ++ wM cI cZ cR ad J Q)) (hS : va_S (lA s) s.heap H locs) (hl : lv_has ls 4 [(0, .ref b), (1, .ref (ad 0)), (2, .ref (ad 70)), (3, .int (nI i))]) (hs1 : vp_in (xs (nI i + 1).toNatClampNeg) 4 → ((xs (nI i + 1).toNatClampNeg)).toNatClampNeg = 1) (hs2 : ∀ q, q < 4 → (xs (nI i + 1).toNatClampNeg) = nI q → q = 1) (back : Back p l e s m below meth c b D cI cZ cR ad ls) : LW p l e s m below meth c b H locs 978 ls [] := by
  obtain ⟨hx, hb, hml, hr, hown, hts, hlocks, hN⟩ := id X
  have hbA : ¬ lA s b := Nat.not_le.mpr hbl
  have h_1 : vp_in (nI i + 1) L := sin_ok (k := 1) hi hL (by decide)
  have h_2 : vp_in (nI i + 2) L := sin_ok (k := 2) hi hL (by decide)
  obtain ⟨o1, h1, o2, h2, he, hI2⟩ := st_best_1 hI (xs (nI i + 1).toNatClampNeg) (xs (nI i + 2).toNatClampNeg) hs2
  refine lv_aload_n hx hb dL_law_978 rfl (lv_at hl 1 rfl) ?_
  refine lv_aload_n hx hb dL_law_979 rfl (lv_at hl 0 rfl) ?_
  refine lv_iload_n hx hb dL_law_980 rfl (lv_at hl 3 rfl) ?_
  refine lv_iconst (v := (1 : Int32)) hx hb dL_law_981 (by decide) ?_
  refine lv_iadd hx hb dL_law_982 ?_
  refine va_sld hx hb hX hbl hbA hS h_1 dL_law_983 ?_
  refine lv_aload_n hx hb dL_law_984 rfl (lv_at hl 0 rfl) ?_
  refine lv_iload_n hx hb dL_law_985 rfl (lv_at hl 3 rfl) ?_
  refine lv_iconst (v := (2 : Int32)) hx hb dL_law_986 (by decide) ?_
  refine lv_iadd hx hb dL_law_987 ?_
  refine va_sld hx hb hX hbl hbA hS h_2 dL_law_988 ?_
  refine lx_best_1 X hK hP hD hS hs1 h1 hl.1 dL_law_989 (fun H locs hP hD hS => ?_)
  refine lv_aload_n hx hb dL_law_992 rfl (lv_at hl 2 rfl) ?_
  refine lv_aload_n hx hb dL_law_993 rfl (lv_at hl 0 rfl) ?_
  refine lv_iload_n hx hb dL_law_994 rfl (lv_at hl 3 rfl) ?_
  refine lv_iconst (v := (1 : Int32)) hx hb dL_law_995 (by decide) ?_
  refine lv_iadd hx hb dL_law_996 ?_
  refine va_sld hx hb hX hbl hbA hS h_1 dL_law_997 ?_
  refine lv_aload_n hx hb dL_law_998 rfl (lv_at hl 0 rfl) ?_
  refine lv_iload_n hx hb dL_law_999 rfl (lv_at hl 3 rfl) ?_
  refine lv_iconst (v := (2 : Int32)) hx hb dL_law_1000 (by decide) ?_
  refine lv_iadd hx hb dL_law_1001 ?_
  refine va_sld hx hb hX hbl hbA hS h_2 dL_law_1002 ?_
  refine lm_best X hK hP hD hS h2 hl.1 dL_law_1003 (fun H locs hP hD hS => ?_)
  refine lv_icmp_eq (tgt := 1199) hx hb dL_law_1006 (by decide) (fun _ => ?_) (fun c9 => absurd he c9)
  exact back _ _ _ _ _ _ hI2 hP hD hS
set_option maxHeartbeats 4000000 in
set_option maxRecDepth 100000 in
theorem cs_best_2 (X : cx p s m #[Value.ref b] meth c code 4 ret RL lw_tbl) (hK : va_K D vwCl (ty3 cI cZ cR) s) (hX : va_X b L xs s s.heap) (hbl : b < s.heap.size) (hi : i + 6 ≤ L) (hL : L ≤ 3072) (hI : Inv I R J Q) (hP : va_P D vwCl (wX cI cZ cR ad I R ++ wM cI cZ cR ad J Q) H) (hD : va_D (lA s) (wX cI cZ cR ad I R ++ wM cI cZ cR ad J Q)) (hS : va_S (lA s) s.heap H locs) (hl : lv_has ls 4 [(0, .ref b), (1, .ref (ad 0)), (2, .ref (ad 70)), (3, .int (nI i))]) (hs1 : vp_in (xs (nI i + 1).toNatClampNeg) 4 → ((xs (nI i + 1).toNatClampNeg)).toNatClampNeg = 2) (hs2 : ∀ q, q < 4 → (xs (nI i + 1).toNatClampNeg) = nI q → q = 2) (back : Back p l e s m below meth c b D cI cZ cR ad ls) : LW p l e s m below meth c b H locs 978 ls [] := by
  obtain ⟨hx, hb, hml, hr, hown, hts, hlocks, hN⟩ := id X
  have hbA : ¬ lA s b := Nat.not_le.mpr hbl
  have h_1 : vp_in (nI i + 1) L := sin_ok (k := 1) hi hL (by decide)
  have h_2 : vp_in (nI i + 2) L := sin_ok (k := 2) hi hL (by decide)
  obtain ⟨o1, h1, o2, h2, he, hI2⟩ := st_best_2 hI (xs (nI i + 1).toNatClampNeg) (xs (nI i + 2).toNatClampNeg) hs2
  refine lv_aload_n hx hb dL_law_978 rfl (lv_at hl 1 rfl) ?_
  refine lv_aload_n hx hb dL_law_979 rfl (lv_at hl 0 rfl) ?_
  refine lv_iload_n hx hb dL_law_980 rfl (lv_at hl 3 rfl) ?_
  refine lv_iconst (v := (1 : Int32)) hx hb dL_law_981 (by decide) ?_
  refine lv_iadd hx hb dL_law_982 ?_
  refine va_sld hx hb hX hbl hbA hS h_1 dL_law_983 ?_
  refine lv_aload_n hx hb dL_law_984 rfl (lv_at hl 0 rfl) ?_
  refine lv_iload_n hx hb dL_law_985 rfl (lv_at hl 3 rfl) ?_
  refine lv_iconst (v := (2 : Int32)) hx hb dL_law_986 (by decide) ?_
  refine lv_iadd hx hb dL_law_987 ?_
  refine va_sld hx hb hX hbl hbA hS h_2 dL_law_988 ?_
  refine lx_best_2 X hK hP hD hS hs1 h1 hl.1 dL_law_989 (fun H locs hP hD hS => ?_)
  refine lv_aload_n hx hb dL_law_992 rfl (lv_at hl 2 rfl) ?_
  refine lv_aload_n hx hb dL_law_993 rfl (lv_at hl 0 rfl) ?_
  refine lv_iload_n hx hb dL_law_994 rfl (lv_at hl 3 rfl) ?_
  refine lv_iconst (v := (1 : Int32)) hx hb dL_law_995 (by decide) ?_
  refine lv_iadd hx hb dL_law_996 ?_
  refine va_sld hx hb hX hbl hbA hS h_1 dL_law_997 ?_
  refine lv_aload_n hx hb dL_law_998 rfl (lv_at hl 0 rfl) ?_
  refine lv_iload_n hx hb dL_law_999 rfl (lv_at hl 3 rfl) ?_
  refine lv_iconst (v := (2 : Int32)) hx hb dL_law_1000 (by decide) ?_
  refine lv_iadd hx hb dL_law_1001 ?_
  refine va_sld hx hb hX hbl hbA hS h_2 dL_law_1002 ?_
  refine lm_best X hK hP hD hS h2 hl.1 dL_law_1003 (fun H locs hP hD hS => ?_)
  refine lv_icmp_eq (tgt := 1199) hx hb dL_law_1006 (by decide) (fun _ => ?_) (fun c9 => absurd he c9)
  exact back _ _ _ _ _ _ hI2 hP hD hS
set_option maxHeartbeats 4000000 in
set_option maxRecDepth 100000 in
theorem cs_best_3 (X : cx p s m #[Value.ref b] meth c code 4 ret RL lw_tbl) (hK : va_K D vwCl (ty3 cI cZ cR) s) (hX : va_X b L xs s s.heap) (hbl : b < s.heap.size) (hi : i + 6 ≤ L) (hL : L ≤ 3072) (hI : Inv I R J Q) (hP : va_P D vwCl (wX cI cZ cR ad I R ++ wM cI cZ cR ad J Q) H) (hD : va_D (lA s) (wX cI cZ cR ad I R ++ wM cI cZ cR ad J Q)) (hS : va_S (lA s) s.heap H locs) (hl : lv_has ls 4 [(0, .ref b), (1, .ref (ad 0)), (2, .ref (ad 70)), (3, .int (nI i))]) (hs1 : vp_in (xs (nI i + 1).toNatClampNeg) 4 → ((xs (nI i + 1).toNatClampNeg)).toNatClampNeg = 3) (hs2 : ∀ q, q < 4 → (xs (nI i + 1).toNatClampNeg) = nI q → q = 3) (back : Back p l e s m below meth c b D cI cZ cR ad ls) : LW p l e s m below meth c b H locs 978 ls [] := by
  obtain ⟨hx, hb, hml, hr, hown, hts, hlocks, hN⟩ := id X
  have hbA : ¬ lA s b := Nat.not_le.mpr hbl
  have h_1 : vp_in (nI i + 1) L := sin_ok (k := 1) hi hL (by decide)
  have h_2 : vp_in (nI i + 2) L := sin_ok (k := 2) hi hL (by decide)
  obtain ⟨o1, h1, o2, h2, he, hI2⟩ := st_best_3 hI (xs (nI i + 1).toNatClampNeg) (xs (nI i + 2).toNatClampNeg) hs2
  refine lv_aload_n hx hb dL_law_978 rfl (lv_at hl 1 rfl) ?_
  refine lv_aload_n hx hb dL_law_979 rfl (lv_at hl 0 rfl) ?_
  refine lv_iload_n hx hb dL_law_980 rfl (lv_at hl 3 rfl) ?_
  refine lv_iconst (v := (1 : Int32)) hx hb dL_law_981 (by decide) ?_
  refine lv_iadd hx hb dL_law_982 ?_
  refine va_sld hx hb hX hbl hbA hS h_1 dL_law_983 ?_
  refine lv_aload_n hx hb dL_law_984 rfl (lv_at hl 0 rfl) ?_
  refine lv_iload_n hx hb dL_law_985 rfl (lv_at hl 3 rfl) ?_
  refine lv_iconst (v := (2 : Int32)) hx hb dL_law_986 (by decide) ?_
  refine lv_iadd hx hb dL_law_987 ?_
  refine va_sld hx hb hX hbl hbA hS h_2 dL_law_988 ?_
  refine lx_best_3 X hK hP hD hS hs1 h1 hl.1 dL_law_989 (fun H locs hP hD hS => ?_)
  refine lv_aload_n hx hb dL_law_992 rfl (lv_at hl 2 rfl) ?_
  refine lv_aload_n hx hb dL_law_993 rfl (lv_at hl 0 rfl) ?_
  refine lv_iload_n hx hb dL_law_994 rfl (lv_at hl 3 rfl) ?_
  refine lv_iconst (v := (1 : Int32)) hx hb dL_law_995 (by decide) ?_
  refine lv_iadd hx hb dL_law_996 ?_
  refine va_sld hx hb hX hbl hbA hS h_1 dL_law_997 ?_
  refine lv_aload_n hx hb dL_law_998 rfl (lv_at hl 0 rfl) ?_
  refine lv_iload_n hx hb dL_law_999 rfl (lv_at hl 3 rfl) ?_
  refine lv_iconst (v := (2 : Int32)) hx hb dL_law_1000 (by decide) ?_
  refine lv_iadd hx hb dL_law_1001 ?_
  refine va_sld hx hb hX hbl hbA hS h_2 dL_law_1002 ?_
  refine lm_best X hK hP hD hS h2 hl.1 dL_law_1003 (fun H locs hP hD hS => ?_)
  refine lv_icmp_eq (tgt := 1199) hx hb dL_law_1006 (by decide) (fun _ => ?_) (fun c9 => absurd he c9)
  exact back _ _ _ _ _ _ hI2 hP hD hS
end LAWCASES
