section LAWCASES
variable {p : Program} {l : Launch} {e : Env} {s : State} {m : MethodId} {below : List Frame} {meth : Method} {c : Code} {H : Heap} {locs : List Loc} {D : va_G} {cI cZ cR : ClassId} {b L : Nat} {xs : Nat → Int32} {adK adV ad : Nat → Nat} {I : Nat → Int32} {R : Nat → Nat → Int32} {J : Nat → Int32} {Q : Nat → Nat → Int32} {ls : Array Slot} {i : Nat}
set_option maxHeartbeats 4000000 in
set_option maxRecDepth 100000 in
theorem cs_member (X : cx p s m #[Value.ref b] meth c code 4 ret RL lw_tbl) (hK : va_K D vwCl (ty3 cI cZ cR) s) (hX : va_X b L xs s s.heap) (hbl : b < s.heap.size) (hi : i + 6 ≤ L) (hL : L ≤ 3072) (hI : Inv I R J Q) (hP : va_P D vwCl (wX cI cZ cR ad I R ++ wM cI cZ cR ad J Q) H) (hD : va_D (lA s) (wX cI cZ cR ad I R ++ wM cI cZ cR ad J Q)) (hS : va_S (lA s) s.heap H locs) (hl : lv_has ls 4 [(0, .ref b), (1, .ref (ad 0)), (2, .ref (ad 70)), (3, .int (nI i))]) (back : Back p l e s m below meth c b D cI cZ cR ad ls) : LW p l e s m below meth c b H locs 152 ls [] := by
  obtain ⟨hx, hb, hml, hr, hown, hts, hlocks, hN⟩ := id X
  have hbA : ¬ lA s b := Nat.not_le.mpr hbl
  obtain ⟨o1, h1, o2, h2, he, hI2⟩ := st_member hI 
  refine lv_aload_n hx hb dL_law_152 rfl (lv_at hl 1 rfl) ?_
  refine lx_member X hK hP hD hS h1 hl.1 dL_law_153 (fun H locs hP hD hS => ?_)
  refine lv_aload_n hx hb dL_law_156 rfl (lv_at hl 2 rfl) ?_
  refine lm_member X hK hP hD hS h2 hl.1 dL_law_157 (fun H locs hP hD hS => ?_)
  refine lv_icmp_eq (tgt := 1199) hx hb dL_law_160 (by decide) (fun _ => ?_) (fun c9 => absurd he c9)
  exact back _ _ _ _ _ _ hI2 hP hD hS
set_option maxHeartbeats 4000000 in
set_option maxRecDepth 100000 in
theorem cs_shift (X : cx p s m #[Value.ref b] meth c code 4 ret RL lw_tbl) (hK : va_K D vwCl (ty3 cI cZ cR) s) (hX : va_X b L xs s s.heap) (hbl : b < s.heap.size) (hi : i + 6 ≤ L) (hL : L ≤ 3072) (hI : Inv I R J Q) (hP : va_P D vwCl (wX cI cZ cR ad I R ++ wM cI cZ cR ad J Q) H) (hD : va_D (lA s) (wX cI cZ cR ad I R ++ wM cI cZ cR ad J Q)) (hS : va_S (lA s) s.heap H locs) (hl : lv_has ls 4 [(0, .ref b), (1, .ref (ad 0)), (2, .ref (ad 70)), (3, .int (nI i))]) (back : Back p l e s m below meth c b D cI cZ cR ad ls) : LW p l e s m below meth c b H locs 165 ls [] := by
  obtain ⟨hx, hb, hml, hr, hown, hts, hlocks, hN⟩ := id X
  have hbA : ¬ lA s b := Nat.not_le.mpr hbl
  have h_1 : vp_in (nI i + 1) L := sin_ok (k := 1) hi hL (by decide)
  have h_2 : vp_in (nI i + 2) L := sin_ok (k := 2) hi hL (by decide)
  have h_3 : vp_in (nI i + 3) L := sin_ok (k := 3) hi hL (by decide)
  have h_4 : vp_in (nI i + 4) L := sin_ok (k := 4) hi hL (by decide)
  have h_5 : vp_in (nI i + 5) L := sin_ok (k := 5) hi hL (by decide)
  obtain ⟨o1, h1, o2, h2, he, hI2⟩ := st_shift hI (xs (nI i + 1).toNatClampNeg) (xs (nI i + 2).toNatClampNeg) (xs (nI i + 3).toNatClampNeg) (xs (nI i + 4).toNatClampNeg) (xs (nI i + 5).toNatClampNeg)
  refine lv_aload_n hx hb dL_law_165 rfl (lv_at hl 1 rfl) ?_
  refine lv_aload_n hx hb dL_law_166 rfl (lv_at hl 0 rfl) ?_
  refine lv_iload_n hx hb dL_law_167 rfl (lv_at hl 3 rfl) ?_
  refine lv_iconst (v := (1 : Int32)) hx hb dL_law_168 (by decide) ?_
  refine lv_iadd hx hb dL_law_169 ?_
  refine va_sld hx hb hX hbl hbA hS h_1 dL_law_170 ?_
  refine lv_aload_n hx hb dL_law_171 rfl (lv_at hl 0 rfl) ?_
  refine lv_iload_n hx hb dL_law_172 rfl (lv_at hl 3 rfl) ?_
  refine lv_iconst (v := (2 : Int32)) hx hb dL_law_173 (by decide) ?_
  refine lv_iadd hx hb dL_law_174 ?_
  refine va_sld hx hb hX hbl hbA hS h_2 dL_law_175 ?_
  refine lv_aload_n hx hb dL_law_176 rfl (lv_at hl 0 rfl) ?_
  refine lv_iload_n hx hb dL_law_177 rfl (lv_at hl 3 rfl) ?_
  refine lv_iconst (v := (3 : Int32)) hx hb dL_law_178 (by decide) ?_
  refine lv_iadd hx hb dL_law_179 ?_
  refine va_sld hx hb hX hbl hbA hS h_3 dL_law_180 ?_
  refine lv_aload_n hx hb dL_law_181 rfl (lv_at hl 0 rfl) ?_
  refine lv_iload_n hx hb dL_law_182 rfl (lv_at hl 3 rfl) ?_
  refine lv_iconst (v := (4 : Int32)) hx hb dL_law_183 (by decide) ?_
  refine lv_iadd hx hb dL_law_184 ?_
  refine va_sld hx hb hX hbl hbA hS h_4 dL_law_185 ?_
  refine lv_aload_n hx hb dL_law_186 rfl (lv_at hl 0 rfl) ?_
  refine lv_iload_n hx hb dL_law_187 rfl (lv_at hl 3 rfl) ?_
  refine lv_iconst (v := (5 : Int32)) hx hb dL_law_188 (by decide) ?_
  refine lv_iadd hx hb dL_law_189 ?_
  refine va_sld hx hb hX hbl hbA hS h_5 dL_law_190 ?_
  refine lx_shift X hK hP hD hS h1 hl.1 dL_law_191 (fun H locs hP hD hS => ?_)
  refine lv_aload_n hx hb dL_law_194 rfl (lv_at hl 2 rfl) ?_
  refine lv_aload_n hx hb dL_law_195 rfl (lv_at hl 0 rfl) ?_
  refine lv_iload_n hx hb dL_law_196 rfl (lv_at hl 3 rfl) ?_
  refine lv_iconst (v := (1 : Int32)) hx hb dL_law_197 (by decide) ?_
  refine lv_iadd hx hb dL_law_198 ?_
  refine va_sld hx hb hX hbl hbA hS h_1 dL_law_199 ?_
  refine lv_aload_n hx hb dL_law_200 rfl (lv_at hl 0 rfl) ?_
  refine lv_iload_n hx hb dL_law_201 rfl (lv_at hl 3 rfl) ?_
  refine lv_iconst (v := (2 : Int32)) hx hb dL_law_202 (by decide) ?_
  refine lv_iadd hx hb dL_law_203 ?_
  refine va_sld hx hb hX hbl hbA hS h_2 dL_law_204 ?_
  refine lv_aload_n hx hb dL_law_205 rfl (lv_at hl 0 rfl) ?_
  refine lv_iload_n hx hb dL_law_206 rfl (lv_at hl 3 rfl) ?_
  refine lv_iconst (v := (3 : Int32)) hx hb dL_law_207 (by decide) ?_
  refine lv_iadd hx hb dL_law_208 ?_
  refine va_sld hx hb hX hbl hbA hS h_3 dL_law_209 ?_
  refine lv_aload_n hx hb dL_law_210 rfl (lv_at hl 0 rfl) ?_
  refine lv_iload_n hx hb dL_law_211 rfl (lv_at hl 3 rfl) ?_
  refine lv_iconst (v := (4 : Int32)) hx hb dL_law_212 (by decide) ?_
  refine lv_iadd hx hb dL_law_213 ?_
  refine va_sld hx hb hX hbl hbA hS h_4 dL_law_214 ?_
  refine lv_aload_n hx hb dL_law_215 rfl (lv_at hl 0 rfl) ?_
  refine lv_iload_n hx hb dL_law_216 rfl (lv_at hl 3 rfl) ?_
  refine lv_iconst (v := (5 : Int32)) hx hb dL_law_217 (by decide) ?_
  refine lv_iadd hx hb dL_law_218 ?_
  refine va_sld hx hb hX hbl hbA hS h_5 dL_law_219 ?_
  refine lm_shift X hK hP hD hS h2 hl.1 dL_law_220 (fun H locs hP hD hS => ?_)
  refine lv_icmp_eq (tgt := 1199) hx hb dL_law_223 (by decide) (fun _ => ?_) (fun c9 => absurd he c9)
  exact back _ _ _ _ _ _ hI2 hP hD hS
set_option maxHeartbeats 4000000 in
set_option maxRecDepth 100000 in
theorem cs_view (X : cx p s m #[Value.ref b] meth c code 4 ret RL lw_tbl) (hK : va_K D vwCl (ty3 cI cZ cR) s) (hX : va_X b L xs s s.heap) (hbl : b < s.heap.size) (hi : i + 6 ≤ L) (hL : L ≤ 3072) (hI : Inv I R J Q) (hP : va_P D vwCl (wX cI cZ cR ad I R ++ wM cI cZ cR ad J Q) H) (hD : va_D (lA s) (wX cI cZ cR ad I R ++ wM cI cZ cR ad J Q)) (hS : va_S (lA s) s.heap H locs) (hl : lv_has ls 4 [(0, .ref b), (1, .ref (ad 0)), (2, .ref (ad 70)), (3, .int (nI i))]) (back : Back p l e s m below meth c b D cI cZ cR ad ls) : LW p l e s m below meth c b H locs 228 ls [] := by
  obtain ⟨hx, hb, hml, hr, hown, hts, hlocks, hN⟩ := id X
  have hbA : ¬ lA s b := Nat.not_le.mpr hbl
  have h_1 : vp_in (nI i + 1) L := sin_ok (k := 1) hi hL (by decide)
  have h_2 : vp_in (nI i + 2) L := sin_ok (k := 2) hi hL (by decide)
  obtain ⟨o1, h1, o2, h2, he, hI2⟩ := st_view hI (xs (nI i + 1).toNatClampNeg) (xs (nI i + 2).toNatClampNeg)
  refine lv_aload_n hx hb dL_law_228 rfl (lv_at hl 1 rfl) ?_
  refine lv_aload_n hx hb dL_law_229 rfl (lv_at hl 0 rfl) ?_
  refine lv_iload_n hx hb dL_law_230 rfl (lv_at hl 3 rfl) ?_
  refine lv_iconst (v := (1 : Int32)) hx hb dL_law_231 (by decide) ?_
  refine lv_iadd hx hb dL_law_232 ?_
  refine va_sld hx hb hX hbl hbA hS h_1 dL_law_233 ?_
  refine lv_aload_n hx hb dL_law_234 rfl (lv_at hl 0 rfl) ?_
  refine lv_iload_n hx hb dL_law_235 rfl (lv_at hl 3 rfl) ?_
  refine lv_iconst (v := (2 : Int32)) hx hb dL_law_236 (by decide) ?_
  refine lv_iadd hx hb dL_law_237 ?_
  refine va_sld hx hb hX hbl hbA hS h_2 dL_law_238 ?_
  refine lx_view X hK hP hD hS h1 hl.1 dL_law_239 (fun H locs hP hD hS => ?_)
  refine lv_aload_n hx hb dL_law_242 rfl (lv_at hl 2 rfl) ?_
  refine lv_aload_n hx hb dL_law_243 rfl (lv_at hl 0 rfl) ?_
  refine lv_iload_n hx hb dL_law_244 rfl (lv_at hl 3 rfl) ?_
  refine lv_iconst (v := (1 : Int32)) hx hb dL_law_245 (by decide) ?_
  refine lv_iadd hx hb dL_law_246 ?_
  refine va_sld hx hb hX hbl hbA hS h_1 dL_law_247 ?_
  refine lv_aload_n hx hb dL_law_248 rfl (lv_at hl 0 rfl) ?_
  refine lv_iload_n hx hb dL_law_249 rfl (lv_at hl 3 rfl) ?_
  refine lv_iconst (v := (2 : Int32)) hx hb dL_law_250 (by decide) ?_
  refine lv_iadd hx hb dL_law_251 ?_
  refine va_sld hx hb hX hbl hbA hS h_2 dL_law_252 ?_
  refine lm_view X hK hP hD hS h2 hl.1 dL_law_253 (fun H locs hP hD hS => ?_)
  refine lv_icmp_eq (tgt := 1199) hx hb dL_law_256 (by decide) (fun _ => ?_) (fun c9 => absurd he c9)
  exact back _ _ _ _ _ _ hI2 hP hD hS
set_option maxHeartbeats 4000000 in
set_option maxRecDepth 100000 in
theorem cs_of (X : cx p s m #[Value.ref b] meth c code 4 ret RL lw_tbl) (hK : va_K D vwCl (ty3 cI cZ cR) s) (hX : va_X b L xs s s.heap) (hbl : b < s.heap.size) (hi : i + 6 ≤ L) (hL : L ≤ 3072) (hI : Inv I R J Q) (hP : va_P D vwCl (wX cI cZ cR ad I R ++ wM cI cZ cR ad J Q) H) (hD : va_D (lA s) (wX cI cZ cR ad I R ++ wM cI cZ cR ad J Q)) (hS : va_S (lA s) s.heap H locs) (hl : lv_has ls 4 [(0, .ref b), (1, .ref (ad 0)), (2, .ref (ad 70)), (3, .int (nI i))]) (back : Back p l e s m below meth c b D cI cZ cR ad ls) : LW p l e s m below meth c b H locs 261 ls [] := by
  obtain ⟨hx, hb, hml, hr, hown, hts, hlocks, hN⟩ := id X
  have hbA : ¬ lA s b := Nat.not_le.mpr hbl
  have h_1 : vp_in (nI i + 1) L := sin_ok (k := 1) hi hL (by decide)
  have h_2 : vp_in (nI i + 2) L := sin_ok (k := 2) hi hL (by decide)
  obtain ⟨o1, h1, o2, h2, he, hI2⟩ := st_of hI (xs (nI i + 1).toNatClampNeg) (xs (nI i + 2).toNatClampNeg)
  refine lv_aload_n hx hb dL_law_261 rfl (lv_at hl 1 rfl) ?_
  refine lv_aload_n hx hb dL_law_262 rfl (lv_at hl 0 rfl) ?_
  refine lv_iload_n hx hb dL_law_263 rfl (lv_at hl 3 rfl) ?_
  refine lv_iconst (v := (1 : Int32)) hx hb dL_law_264 (by decide) ?_
  refine lv_iadd hx hb dL_law_265 ?_
  refine va_sld hx hb hX hbl hbA hS h_1 dL_law_266 ?_
  refine lv_aload_n hx hb dL_law_267 rfl (lv_at hl 0 rfl) ?_
  refine lv_iload_n hx hb dL_law_268 rfl (lv_at hl 3 rfl) ?_
  refine lv_iconst (v := (2 : Int32)) hx hb dL_law_269 (by decide) ?_
  refine lv_iadd hx hb dL_law_270 ?_
  refine va_sld hx hb hX hbl hbA hS h_2 dL_law_271 ?_
  refine lx_of X hK hP hD hS h1 hl.1 dL_law_272 (fun H locs hP hD hS => ?_)
  refine lv_aload_n hx hb dL_law_275 rfl (lv_at hl 2 rfl) ?_
  refine lv_aload_n hx hb dL_law_276 rfl (lv_at hl 0 rfl) ?_
  refine lv_iload_n hx hb dL_law_277 rfl (lv_at hl 3 rfl) ?_
  refine lv_iconst (v := (1 : Int32)) hx hb dL_law_278 (by decide) ?_
  refine lv_iadd hx hb dL_law_279 ?_
  refine va_sld hx hb hX hbl hbA hS h_1 dL_law_280 ?_
  refine lv_aload_n hx hb dL_law_281 rfl (lv_at hl 0 rfl) ?_
  refine lv_iload_n hx hb dL_law_282 rfl (lv_at hl 3 rfl) ?_
  refine lv_iconst (v := (2 : Int32)) hx hb dL_law_283 (by decide) ?_
  refine lv_iadd hx hb dL_law_284 ?_
  refine va_sld hx hb hX hbl hbA hS h_2 dL_law_285 ?_
  refine lm_of X hK hP hD hS h2 hl.1 dL_law_286 (fun H locs hP hD hS => ?_)
  refine lv_icmp_eq (tgt := 1199) hx hb dL_law_289 (by decide) (fun _ => ?_) (fun c9 => absurd he c9)
  exact back _ _ _ _ _ _ hI2 hP hD hS
set_option maxHeartbeats 4000000 in
set_option maxRecDepth 100000 in
theorem cs_look (X : cx p s m #[Value.ref b] meth c code 4 ret RL lw_tbl) (hK : va_K D vwCl (ty3 cI cZ cR) s) (hX : va_X b L xs s s.heap) (hbl : b < s.heap.size) (hi : i + 6 ≤ L) (hL : L ≤ 3072) (hI : Inv I R J Q) (hP : va_P D vwCl (wX cI cZ cR ad I R ++ wM cI cZ cR ad J Q) H) (hD : va_D (lA s) (wX cI cZ cR ad I R ++ wM cI cZ cR ad J Q)) (hS : va_S (lA s) s.heap H locs) (hl : lv_has ls 4 [(0, .ref b), (1, .ref (ad 0)), (2, .ref (ad 70)), (3, .int (nI i))]) (back : Back p l e s m below meth c b D cI cZ cR ad ls) : LW p l e s m below meth c b H locs 294 ls [] := by
  obtain ⟨hx, hb, hml, hr, hown, hts, hlocks, hN⟩ := id X
  have hbA : ¬ lA s b := Nat.not_le.mpr hbl
  have h_1 : vp_in (nI i + 1) L := sin_ok (k := 1) hi hL (by decide)
  obtain ⟨o1, h1, o2, h2, he, hI2⟩ := st_look hI (xs (nI i + 1).toNatClampNeg)
  refine lv_aload_n hx hb dL_law_294 rfl (lv_at hl 1 rfl) ?_
  refine lv_aload_n hx hb dL_law_295 rfl (lv_at hl 0 rfl) ?_
  refine lv_iload_n hx hb dL_law_296 rfl (lv_at hl 3 rfl) ?_
  refine lv_iconst (v := (1 : Int32)) hx hb dL_law_297 (by decide) ?_
  refine lv_iadd hx hb dL_law_298 ?_
  refine va_sld hx hb hX hbl hbA hS h_1 dL_law_299 ?_
  refine lx_look X hK hP hD hS h1 hl.1 dL_law_300 (fun H locs hP hD hS => ?_)
  refine lv_aload_n hx hb dL_law_303 rfl (lv_at hl 2 rfl) ?_
  refine lv_aload_n hx hb dL_law_304 rfl (lv_at hl 0 rfl) ?_
  refine lv_iload_n hx hb dL_law_305 rfl (lv_at hl 3 rfl) ?_
  refine lv_iconst (v := (1 : Int32)) hx hb dL_law_306 (by decide) ?_
  refine lv_iadd hx hb dL_law_307 ?_
  refine va_sld hx hb hX hbl hbA hS h_1 dL_law_308 ?_
  refine lm_look X hK hP hD hS h2 hl.1 dL_law_309 (fun H locs hP hD hS => ?_)
  refine lv_icmp_eq (tgt := 1199) hx hb dL_law_312 (by decide) (fun _ => ?_) (fun c9 => absurd he c9)
  exact back _ _ _ _ _ _ hI2 hP hD hS
set_option maxHeartbeats 4000000 in
set_option maxRecDepth 100000 in
theorem cs_feed (X : cx p s m #[Value.ref b] meth c code 4 ret RL lw_tbl) (hK : va_K D vwCl (ty3 cI cZ cR) s) (hX : va_X b L xs s s.heap) (hbl : b < s.heap.size) (hi : i + 6 ≤ L) (hL : L ≤ 3072) (hI : Inv I R J Q) (hP : va_P D vwCl (wX cI cZ cR ad I R ++ wM cI cZ cR ad J Q) H) (hD : va_D (lA s) (wX cI cZ cR ad I R ++ wM cI cZ cR ad J Q)) (hS : va_S (lA s) s.heap H locs) (hl : lv_has ls 4 [(0, .ref b), (1, .ref (ad 0)), (2, .ref (ad 70)), (3, .int (nI i))]) (back : Back p l e s m below meth c b D cI cZ cR ad ls) : LW p l e s m below meth c b H locs 317 ls [] := by
  obtain ⟨hx, hb, hml, hr, hown, hts, hlocks, hN⟩ := id X
  have hbA : ¬ lA s b := Nat.not_le.mpr hbl
  have h_1 : vp_in (nI i + 1) L := sin_ok (k := 1) hi hL (by decide)
  have h_2 : vp_in (nI i + 2) L := sin_ok (k := 2) hi hL (by decide)
  have h_3 : vp_in (nI i + 3) L := sin_ok (k := 3) hi hL (by decide)
  have h_4 : vp_in (nI i + 4) L := sin_ok (k := 4) hi hL (by decide)
  have h_5 : vp_in (nI i + 5) L := sin_ok (k := 5) hi hL (by decide)
  obtain ⟨o1, h1, o2, h2, he, hI2⟩ := st_feed hI (xs (nI i + 1).toNatClampNeg) (xs (nI i + 2).toNatClampNeg) (xs (nI i + 3).toNatClampNeg) (xs (nI i + 4).toNatClampNeg) (xs (nI i + 5).toNatClampNeg)
  refine lv_aload_n hx hb dL_law_317 rfl (lv_at hl 1 rfl) ?_
  refine lv_aload_n hx hb dL_law_318 rfl (lv_at hl 0 rfl) ?_
  refine lv_iload_n hx hb dL_law_319 rfl (lv_at hl 3 rfl) ?_
  refine lv_iconst (v := (1 : Int32)) hx hb dL_law_320 (by decide) ?_
  refine lv_iadd hx hb dL_law_321 ?_
  refine va_sld hx hb hX hbl hbA hS h_1 dL_law_322 ?_
  refine lv_aload_n hx hb dL_law_323 rfl (lv_at hl 0 rfl) ?_
  refine lv_iload_n hx hb dL_law_324 rfl (lv_at hl 3 rfl) ?_
  refine lv_iconst (v := (2 : Int32)) hx hb dL_law_325 (by decide) ?_
  refine lv_iadd hx hb dL_law_326 ?_
  refine va_sld hx hb hX hbl hbA hS h_2 dL_law_327 ?_
  refine lv_aload_n hx hb dL_law_328 rfl (lv_at hl 0 rfl) ?_
  refine lv_iload_n hx hb dL_law_329 rfl (lv_at hl 3 rfl) ?_
  refine lv_iconst (v := (3 : Int32)) hx hb dL_law_330 (by decide) ?_
  refine lv_iadd hx hb dL_law_331 ?_
  refine va_sld hx hb hX hbl hbA hS h_3 dL_law_332 ?_
  refine lv_aload_n hx hb dL_law_333 rfl (lv_at hl 0 rfl) ?_
  refine lv_iload_n hx hb dL_law_334 rfl (lv_at hl 3 rfl) ?_
  refine lv_iconst (v := (4 : Int32)) hx hb dL_law_335 (by decide) ?_
  refine lv_iadd hx hb dL_law_336 ?_
  refine va_sld hx hb hX hbl hbA hS h_4 dL_law_337 ?_
  refine lv_aload_n hx hb dL_law_338 rfl (lv_at hl 0 rfl) ?_
  refine lv_iload_n hx hb dL_law_339 rfl (lv_at hl 3 rfl) ?_
  refine lv_iconst (v := (5 : Int32)) hx hb dL_law_340 (by decide) ?_
  refine lv_iadd hx hb dL_law_341 ?_
  refine va_sld hx hb hX hbl hbA hS h_5 dL_law_342 ?_
  refine lx_feed X hK hP hD hS h1 hl.1 dL_law_343 (fun H locs hP hD hS => ?_)
  refine lv_aload_n hx hb dL_law_346 rfl (lv_at hl 2 rfl) ?_
  refine lv_aload_n hx hb dL_law_347 rfl (lv_at hl 0 rfl) ?_
  refine lv_iload_n hx hb dL_law_348 rfl (lv_at hl 3 rfl) ?_
  refine lv_iconst (v := (1 : Int32)) hx hb dL_law_349 (by decide) ?_
  refine lv_iadd hx hb dL_law_350 ?_
  refine va_sld hx hb hX hbl hbA hS h_1 dL_law_351 ?_
  refine lv_aload_n hx hb dL_law_352 rfl (lv_at hl 0 rfl) ?_
  refine lv_iload_n hx hb dL_law_353 rfl (lv_at hl 3 rfl) ?_
  refine lv_iconst (v := (2 : Int32)) hx hb dL_law_354 (by decide) ?_
  refine lv_iadd hx hb dL_law_355 ?_
  refine va_sld hx hb hX hbl hbA hS h_2 dL_law_356 ?_
  refine lv_aload_n hx hb dL_law_357 rfl (lv_at hl 0 rfl) ?_
  refine lv_iload_n hx hb dL_law_358 rfl (lv_at hl 3 rfl) ?_
  refine lv_iconst (v := (3 : Int32)) hx hb dL_law_359 (by decide) ?_
  refine lv_iadd hx hb dL_law_360 ?_
  refine va_sld hx hb hX hbl hbA hS h_3 dL_law_361 ?_
  refine lv_aload_n hx hb dL_law_362 rfl (lv_at hl 0 rfl) ?_
  refine lv_iload_n hx hb dL_law_363 rfl (lv_at hl 3 rfl) ?_
  refine lv_iconst (v := (4 : Int32)) hx hb dL_law_364 (by decide) ?_
  refine lv_iadd hx hb dL_law_365 ?_
  refine va_sld hx hb hX hbl hbA hS h_4 dL_law_366 ?_
  refine lv_aload_n hx hb dL_law_367 rfl (lv_at hl 0 rfl) ?_
  refine lv_iload_n hx hb dL_law_368 rfl (lv_at hl 3 rfl) ?_
  refine lv_iconst (v := (5 : Int32)) hx hb dL_law_369 (by decide) ?_
  refine lv_iadd hx hb dL_law_370 ?_
  refine va_sld hx hb hX hbl hbA hS h_5 dL_law_371 ?_
  refine lm_feed X hK hP hD hS h2 hl.1 dL_law_372 (fun H locs hP hD hS => ?_)
  refine lv_icmp_eq (tgt := 1199) hx hb dL_law_375 (by decide) (fun _ => ?_) (fun c9 => absurd he c9)
  exact back _ _ _ _ _ _ hI2 hP hD hS
set_option maxHeartbeats 4000000 in
set_option maxRecDepth 100000 in
theorem cs_end (X : cx p s m #[Value.ref b] meth c code 4 ret RL lw_tbl) (hK : va_K D vwCl (ty3 cI cZ cR) s) (hX : va_X b L xs s s.heap) (hbl : b < s.heap.size) (hi : i + 6 ≤ L) (hL : L ≤ 3072) (hI : Inv I R J Q) (hP : va_P D vwCl (wX cI cZ cR ad I R ++ wM cI cZ cR ad J Q) H) (hD : va_D (lA s) (wX cI cZ cR ad I R ++ wM cI cZ cR ad J Q)) (hS : va_S (lA s) s.heap H locs) (hl : lv_has ls 4 [(0, .ref b), (1, .ref (ad 0)), (2, .ref (ad 70)), (3, .int (nI i))]) (back : Back p l e s m below meth c b D cI cZ cR ad ls) : LW p l e s m below meth c b H locs 380 ls [] := by
  obtain ⟨hx, hb, hml, hr, hown, hts, hlocks, hN⟩ := id X
  have hbA : ¬ lA s b := Nat.not_le.mpr hbl
  have h_1 : vp_in (nI i + 1) L := sin_ok (k := 1) hi hL (by decide)
  obtain ⟨o1, h1, o2, h2, he, hI2⟩ := st_end hI (xs (nI i + 1).toNatClampNeg)
  refine lv_aload_n hx hb dL_law_380 rfl (lv_at hl 1 rfl) ?_
  refine lv_aload_n hx hb dL_law_381 rfl (lv_at hl 0 rfl) ?_
  refine lv_iload_n hx hb dL_law_382 rfl (lv_at hl 3 rfl) ?_
  refine lv_iconst (v := (1 : Int32)) hx hb dL_law_383 (by decide) ?_
  refine lv_iadd hx hb dL_law_384 ?_
  refine va_sld hx hb hX hbl hbA hS h_1 dL_law_385 ?_
  refine lx_end X hK hP hD hS h1 hl.1 dL_law_386 (fun H locs hP hD hS => ?_)
  refine lv_aload_n hx hb dL_law_389 rfl (lv_at hl 2 rfl) ?_
  refine lv_aload_n hx hb dL_law_390 rfl (lv_at hl 0 rfl) ?_
  refine lv_iload_n hx hb dL_law_391 rfl (lv_at hl 3 rfl) ?_
  refine lv_iconst (v := (1 : Int32)) hx hb dL_law_392 (by decide) ?_
  refine lv_iadd hx hb dL_law_393 ?_
  refine va_sld hx hb hX hbl hbA hS h_1 dL_law_394 ?_
  refine lm_end X hK hP hD hS h2 hl.1 dL_law_395 (fun H locs hP hD hS => ?_)
  refine lv_icmp_eq (tgt := 1199) hx hb dL_law_398 (by decide) (fun _ => ?_) (fun c9 => absurd he c9)
  exact back _ _ _ _ _ _ hI2 hP hD hS
end LAWCASES
