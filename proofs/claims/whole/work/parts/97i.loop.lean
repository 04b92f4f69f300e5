theorem lim_in {i L : Nat} (hL : L ≤ 3072) (hi : i ≤ L) (h : ¬ nI L - 6 < nI i) : i + 6 ≤ L := by
  rcases Nat.lt_or_ge L 6 with q | q
  · have hz : ∀ k : Fin 6, nI k.1 - 6 < 0 := by decide
    have h0 := hz ⟨L, q⟩
    have hp : (0 : Int32) ≤ nI i := nI_pos' (by omega)
    exact absurd (Int32.lt_of_lt_of_le h0 hp) h
  · have e : nI L - 6 = nI (L - 6) := by
      obtain ⟨k, rfl⟩ : ∃ k, L = k + 6 := ⟨L - 6, by omega⟩
      rw [Nat.add_sub_cancel]
      exact pk_sub (a := k + 6) (b := 6) (by omega)
    rw [e] at h
    have h2 : nI i ≤ nI (L - 6) := Int32.not_lt.mp h
    have := (nI_leI (a := i) (b := L - 6) (by omega) (by omega)).mp h2
    omega
section LAWLOOP
variable {p : Program} {l : Launch} {e : Env} {s : State} {m : MethodId} {below : List Frame} {meth : Method} {c : Code} {H : Heap} {locs : List Loc} {D : va_G} {cI cZ cR : ClassId} {b L : Nat} {xs : Nat → Int32} {adK adV ad : Nat → Nat} {I : Nat → Int32} {R : Nat → Nat → Int32} {J : Nat → Int32} {Q : Nat → Nat → Int32} {ls : Array Slot} {i : Nat}
set_option maxHeartbeats 8000000 in
set_option maxRecDepth 100000 in
theorem law_case (X : cx p s m #[Value.ref b] meth c code 4 ret RL lw_tbl) (hK : va_K D vwCl (ty3 cI cZ cR) s) (hX : va_X b L xs s s.heap) (hbl : b < s.heap.size) (hL : L ≤ 3072) (hSW : SW adK adV (lA s) s s.heap) (hi : i + 6 ≤ L) (hI : Inv I R J Q) (hP : va_P D vwCl (wX cI cZ cR ad I R ++ wM cI cZ cR ad J Q) H) (hD : va_D (lA s) (wX cI cZ cR ad I R ++ wM cI cZ cR ad J Q)) (hS : va_S (lA s) s.heap H locs) (hl : lv_has ls 4 [(0, .ref b), (1, .ref (ad 0)), (2, .ref (ad 70)), (3, .int (nI i))]) (back : Back p l e s m below meth c b D cI cZ cR ad ls) {x : Int32} : LW p l e s m below meth c b H locs 33 ls [.int x] := by
  obtain ⟨hx, hb, hml, hr, hown, hts, hlocks, hN⟩ := id X
  obtain ⟨r, hr4, hs1, hs2⟩ := pick4 (xs (nI i + 1).toNatClampNeg)
  by_cases c0 : x = 0
  · refine lv_tableIn (tgt := 152) hx hb dL_law_33 (by rw [c0]; decide) (by rw [c0]; decide) (by rw [c0]; rfl) (by decide) ?_
    exact cs_member X hK hX hbl hi hL hI hP hD hS hl back
  by_cases c1 : x = 1
  · refine lv_tableIn (tgt := 165) hx hb dL_law_33 (by rw [c1]; decide) (by rw [c1]; decide) (by rw [c1]; rfl) (by decide) ?_
    exact cs_shift X hK hX hbl hi hL hI hP hD hS hl back
  by_cases c2 : x = 2
  · refine lv_tableIn (tgt := 228) hx hb dL_law_33 (by rw [c2]; decide) (by rw [c2]; decide) (by rw [c2]; rfl) (by decide) ?_
    exact cs_view X hK hX hbl hi hL hI hP hD hS hl back
  by_cases c3 : x = 3
  · refine lv_tableIn (tgt := 261) hx hb dL_law_33 (by rw [c3]; decide) (by rw [c3]; decide) (by rw [c3]; rfl) (by decide) ?_
    exact cs_of X hK hX hbl hi hL hI hP hD hS hl back
  by_cases c4 : x = 4
  · refine lv_tableIn (tgt := 294) hx hb dL_law_33 (by rw [c4]; decide) (by rw [c4]; decide) (by rw [c4]; rfl) (by decide) ?_
    exact cs_look X hK hX hbl hi hL hI hP hD hS hl back
  by_cases c5 : x = 5
  · refine lv_tableIn (tgt := 317) hx hb dL_law_33 (by rw [c5]; decide) (by rw [c5]; decide) (by rw [c5]; rfl) (by decide) ?_
    exact cs_feed X hK hX hbl hi hL hI hP hD hS hl back
  by_cases c6 : x = 6
  · refine lv_tableIn (tgt := 380) hx hb dL_law_33 (by rw [c6]; decide) (by rw [c6]; decide) (by rw [c6]; rfl) (by decide) ?_
    exact cs_end X hK hX hbl hi hL hI hP hD hS hl back
  by_cases c7 : x = 7
  · refine lv_tableIn (tgt := 403) hx hb dL_law_33 (by rw [c7]; decide) (by rw [c7]; decide) (by rw [c7]; rfl) (by decide) ?_
    rcases (show r = 0 ∨ r = 1 ∨ r = 2 ∨ r = 3 by omega) with e | e | e | e
    · exact cs_rule_0 X hK hX hbl hi hL hSW hI hP hD hS hl (e ▸ hs1) (e ▸ hs2) back
    · exact cs_rule_1 X hK hX hbl hi hL hSW hI hP hD hS hl (e ▸ hs1) (e ▸ hs2) back
    · exact cs_rule_2 X hK hX hbl hi hL hSW hI hP hD hS hl (e ▸ hs1) (e ▸ hs2) back
    · exact cs_rule_3 X hK hX hbl hi hL hSW hI hP hD hS hl (e ▸ hs1) (e ▸ hs2) back
  by_cases c8 : x = 8
  · refine lv_tableIn (tgt := 426) hx hb dL_law_33 (by rw [c8]; decide) (by rw [c8]; decide) (by rw [c8]; rfl) (by decide) ?_
    exact cs_fault X hK hX hbl hi hL hI hP hD hS hl back
  by_cases c9 : x = 9
  · refine lv_tableIn (tgt := 449) hx hb dL_law_33 (by rw [c9]; decide) (by rw [c9]; decide) (by rw [c9]; rfl) (by decide) ?_
    rcases (show r = 0 ∨ r = 1 ∨ r = 2 ∨ r = 3 by omega) with e | e | e | e
    · exact cs_carries_0 X hK hX hbl hi hL hI hP hD hS hl (e ▸ hs1) (e ▸ hs2) back
    · exact cs_carries_1 X hK hX hbl hi hL hI hP hD hS hl (e ▸ hs1) (e ▸ hs2) back
    · exact cs_carries_2 X hK hX hbl hi hL hI hP hD hS hl (e ▸ hs1) (e ▸ hs2) back
    · exact cs_carries_3 X hK hX hbl hi hL hI hP hD hS hl (e ▸ hs1) (e ▸ hs2) back
  by_cases c10 : x = 10
  · refine lv_tableIn (tgt := 482) hx hb dL_law_33 (by rw [c10]; decide) (by rw [c10]; decide) (by rw [c10]; rfl) (by decide) ?_
    rcases (show r = 0 ∨ r = 1 ∨ r = 2 ∨ r = 3 by omega) with e | e | e | e
    · exact cs_leasts_0 X hK hX hbl hi hL hI hP hD hS hl (e ▸ hs1) (e ▸ hs2) back
    · exact cs_leasts_1 X hK hX hbl hi hL hI hP hD hS hl (e ▸ hs1) (e ▸ hs2) back
    · exact cs_leasts_2 X hK hX hbl hi hL hI hP hD hS hl (e ▸ hs1) (e ▸ hs2) back
    · exact cs_leasts_3 X hK hX hbl hi hL hI hP hD hS hl (e ▸ hs1) (e ▸ hs2) back
  by_cases c11 : x = 11
  · refine lv_tableIn (tgt := 515) hx hb dL_law_33 (by rw [c11]; decide) (by rw [c11]; decide) (by rw [c11]; rfl) (by decide) ?_
    rcases (show r = 0 ∨ r = 1 ∨ r = 2 ∨ r = 3 by omega) with e | e | e | e
    · exact cs_least_0 X hK hX hbl hi hL hI hP hD hS hl (e ▸ hs1) (e ▸ hs2) back
    · exact cs_least_1 X hK hX hbl hi hL hI hP hD hS hl (e ▸ hs1) (e ▸ hs2) back
    · exact cs_least_2 X hK hX hbl hi hL hI hP hD hS hl (e ▸ hs1) (e ▸ hs2) back
    · exact cs_least_3 X hK hX hbl hi hL hI hP hD hS hl (e ▸ hs1) (e ▸ hs2) back
  by_cases c12 : x = 12
  · refine lv_tableIn (tgt := 558) hx hb dL_law_33 (by rw [c12]; decide) (by rw [c12]; decide) (by rw [c12]; rfl) (by decide) ?_
    rcases (show r = 0 ∨ r = 1 ∨ r = 2 ∨ r = 3 by omega) with e | e | e | e
    · exact cs_power_0 X hK hX hbl hi hL hI hP hD hS hl (e ▸ hs1) (e ▸ hs2) back
    · exact cs_power_1 X hK hX hbl hi hL hI hP hD hS hl (e ▸ hs1) (e ▸ hs2) back
    · exact cs_power_2 X hK hX hbl hi hL hI hP hD hS hl (e ▸ hs1) (e ▸ hs2) back
    · exact cs_power_3 X hK hX hbl hi hL hI hP hD hS hl (e ▸ hs1) (e ▸ hs2) back
  by_cases c13 : x = 13
  · refine lv_tableIn (tgt := 602) hx hb dL_law_33 (by rw [c13]; decide) (by rw [c13]; decide) (by rw [c13]; rfl) (by decide) ?_
    rcases (show r = 0 ∨ r = 1 ∨ r = 2 ∨ r = 3 by omega) with e | e | e | e
    · exact cs_odd_0 X hK hX hbl hi hL hI hP hD hS hl (e ▸ hs1) (e ▸ hs2) back
    · exact cs_odd_1 X hK hX hbl hi hL hI hP hD hS hl (e ▸ hs1) (e ▸ hs2) back
    · exact cs_odd_2 X hK hX hbl hi hL hI hP hD hS hl (e ▸ hs1) (e ▸ hs2) back
    · exact cs_odd_3 X hK hX hbl hi hL hI hP hD hS hl (e ▸ hs1) (e ▸ hs2) back
  by_cases c14 : x = 14
  · refine lv_tableIn (tgt := 635) hx hb dL_law_33 (by rw [c14]; decide) (by rw [c14]; decide) (by rw [c14]; rfl) (by decide) ?_
    rcases (show r = 0 ∨ r = 1 ∨ r = 2 ∨ r = 3 by omega) with e | e | e | e
    · exact cs_worth_0 X hK hX hbl hi hL hI hP hD hS hl (e ▸ hs1) (e ▸ hs2) back
    · exact cs_worth_1 X hK hX hbl hi hL hI hP hD hS hl (e ▸ hs1) (e ▸ hs2) back
    · exact cs_worth_2 X hK hX hbl hi hL hI hP hD hS hl (e ▸ hs1) (e ▸ hs2) back
    · exact cs_worth_3 X hK hX hbl hi hL hI hP hD hS hl (e ▸ hs1) (e ▸ hs2) back
  by_cases c15 : x = 15
  · refine lv_tableIn (tgt := 678) hx hb dL_law_33 (by rw [c15]; decide) (by rw [c15]; decide) (by rw [c15]; rfl) (by decide) ?_
    rcases (show r = 0 ∨ r = 1 ∨ r = 2 ∨ r = 3 by omega) with e | e | e | e
    · exact cs_trade_0 X hK hX hbl hi hL hI hP hD hS hl (e ▸ hs1) (e ▸ hs2) back
    · exact cs_trade_1 X hK hX hbl hi hL hI hP hD hS hl (e ▸ hs1) (e ▸ hs2) back
    · exact cs_trade_2 X hK hX hbl hi hL hI hP hD hS hl (e ▸ hs1) (e ▸ hs2) back
    · exact cs_trade_3 X hK hX hbl hi hL hI hP hD hS hl (e ▸ hs1) (e ▸ hs2) back
  by_cases c16 : x = 16
  · refine lv_tableIn (tgt := 711) hx hb dL_law_33 (by rw [c16]; decide) (by rw [c16]; decide) (by rw [c16]; rfl) (by decide) ?_
    rcases (show r = 0 ∨ r = 1 ∨ r = 2 ∨ r = 3 by omega) with e | e | e | e
    · exact cs_days_0 X hK hX hbl hi hL hI hP hD hS hl (e ▸ hs1) (e ▸ hs2) back
    · exact cs_days_1 X hK hX hbl hi hL hI hP hD hS hl (e ▸ hs1) (e ▸ hs2) back
    · exact cs_days_2 X hK hX hbl hi hL hI hP hD hS hl (e ▸ hs1) (e ▸ hs2) back
    · exact cs_days_3 X hK hX hbl hi hL hI hP hD hS hl (e ▸ hs1) (e ▸ hs2) back
  by_cases c17 : x = 17
  · refine lv_tableIn (tgt := 774) hx hb dL_law_33 (by rw [c17]; decide) (by rw [c17]; decide) (by rw [c17]; rfl) (by decide) ?_
    exact cs_wish X hK hX hbl hi hL hI hP hD hS hl back
  by_cases c18 : x = 18
  · refine lv_tableIn (tgt := 807) hx hb dL_law_33 (by rw [c18]; decide) (by rw [c18]; decide) (by rw [c18]; rfl) (by decide) ?_
    exact cs_support X hK hX hbl hi hL hI hP hD hS hl back
  by_cases c19 : x = 19
  · refine lv_tableIn (tgt := 840) hx hb dL_law_33 (by rw [c19]; decide) (by rw [c19]; decide) (by rw [c19]; rfl) (by decide) ?_
    rcases (show r = 0 ∨ r = 1 ∨ r = 2 ∨ r = 3 by omega) with e | e | e | e
    · exact cs_agenda_0 X hK hX hbl hi hL hI hP hD hS hl (e ▸ hs1) (e ▸ hs2) back
    · exact cs_agenda_1 X hK hX hbl hi hL hI hP hD hS hl (e ▸ hs1) (e ▸ hs2) back
    · exact cs_agenda_2 X hK hX hbl hi hL hI hP hD hS hl (e ▸ hs1) (e ▸ hs2) back
    · exact cs_agenda_3 X hK hX hbl hi hL hI hP hD hS hl (e ▸ hs1) (e ▸ hs2) back
  by_cases c20 : x = 20
  · refine lv_tableIn (tgt := 899) hx hb dL_law_33 (by rw [c20]; decide) (by rw [c20]; decide) (by rw [c20]; rfl) (by decide) ?_
    rcases (show r = 0 ∨ r = 1 ∨ r = 2 ∨ r = 3 by omega) with e | e | e | e
    · exact cs_through_0 X hK hX hbl hi hL hI hP hD hS hl (e ▸ hs1) (e ▸ hs2) back
    · exact cs_through_1 X hK hX hbl hi hL hI hP hD hS hl (e ▸ hs1) (e ▸ hs2) back
    · exact cs_through_2 X hK hX hbl hi hL hI hP hD hS hl (e ▸ hs1) (e ▸ hs2) back
    · exact cs_through_3 X hK hX hbl hi hL hI hP hD hS hl (e ▸ hs1) (e ▸ hs2) back
  by_cases c21 : x = 21
  · refine lv_tableIn (tgt := 978) hx hb dL_law_33 (by rw [c21]; decide) (by rw [c21]; decide) (by rw [c21]; rfl) (by decide) ?_
    rcases (show r = 0 ∨ r = 1 ∨ r = 2 ∨ r = 3 by omega) with e | e | e | e
    · exact cs_best_0 X hK hX hbl hi hL hI hP hD hS hl (e ▸ hs1) (e ▸ hs2) back
    · exact cs_best_1 X hK hX hbl hi hL hI hP hD hS hl (e ▸ hs1) (e ▸ hs2) back
    · exact cs_best_2 X hK hX hbl hi hL hI hP hD hS hl (e ▸ hs1) (e ▸ hs2) back
    · exact cs_best_3 X hK hX hbl hi hL hI hP hD hS hl (e ▸ hs1) (e ▸ hs2) back
  by_cases c22 : x = 22
  · refine lv_tableIn (tgt := 1011) hx hb dL_law_33 (by rw [c22]; decide) (by rw [c22]; decide) (by rw [c22]; rfl) (by decide) ?_
    exact cs_line X hK hX hbl hi hL hI hP hD hS hl back
  by_cases c23 : x = 23
  · refine lv_tableIn (tgt := 1044) hx hb dL_law_33 (by rw [c23]; decide) (by rw [c23]; decide) (by rw [c23]; rfl) (by decide) ?_
    rcases (show r = 0 ∨ r = 1 ∨ r = 2 ∨ r = 3 by omega) with e | e | e | e
    · exact cs_coalition_0 X hK hX hbl hi hL hI hP hD hS hl (e ▸ hs1) (e ▸ hs2) back
    · exact cs_coalition_1 X hK hX hbl hi hL hI hP hD hS hl (e ▸ hs1) (e ▸ hs2) back
    · exact cs_coalition_2 X hK hX hbl hi hL hI hP hD hS hl (e ▸ hs1) (e ▸ hs2) back
    · exact cs_coalition_3 X hK hX hbl hi hL hI hP hD hS hl (e ▸ hs1) (e ▸ hs2) back
  by_cases c24 : x = 24
  · refine lv_tableIn (tgt := 1077) hx hb dL_law_33 (by rw [c24]; decide) (by rw [c24]; decide) (by rw [c24]; rfl) (by decide) ?_
    exact cs_value X hK hX hbl hi hL hI hP hD hS hl back
  by_cases c25 : x = 25
  · refine lv_tableIn (tgt := 1120) hx hb dL_law_33 (by rw [c25]; decide) (by rw [c25]; decide) (by rw [c25]; rfl) (by decide) ?_
    exact cs_deal X hK hX hbl hi hL hI hP hD hS hl back
  refine lv_tableOut (tgt := 1199) hx hb dL_law_33 (tout 0 25 (fun k hk e => ?_) rfl rfl (by decide)) (by decide) ?_
  · rcases (show k = 0 ∨ k = 1 ∨ k = 2 ∨ k = 3 ∨ k = 4 ∨ k = 5 ∨ k = 6 ∨ k = 7 ∨ k = 8 ∨ k = 9 ∨ k = 10 ∨ k = 11 ∨ k = 12 ∨ k = 13 ∨ k = 14 ∨ k = 15 ∨ k = 16 ∨ k = 17 ∨ k = 18 ∨ k = 19 ∨ k = 20 ∨ k = 21 ∨ k = 22 ∨ k = 23 ∨ k = 24 ∨ k = 25 by omega) with rfl | rfl | rfl | rfl | rfl | rfl | rfl | rfl | rfl | rfl | rfl | rfl | rfl | rfl | rfl | rfl | rfl | rfl | rfl | rfl | rfl | rfl | rfl | rfl | rfl | rfl
    · exact c0 e
    · exact c1 e
    · exact c2 e
    · exact c3 e
    · exact c4 e
    · exact c5 e
    · exact c6 e
    · exact c7 e
    · exact c8 e
    · exact c9 e
    · exact c10 e
    · exact c11 e
    · exact c12 e
    · exact c13 e
    · exact c14 e
    · exact c15 e
    · exact c16 e
    · exact c17 e
    · exact c18 e
    · exact c19 e
    · exact c20 e
    · exact c21 e
    · exact c22 e
    · exact c23 e
    · exact c24 e
    · exact c25 e
  · exact back _ _ _ _ _ _ hI hP hD hS
set_option maxHeartbeats 8000000 in
set_option maxRecDepth 100000 in
theorem law_loop (X : cx p s m #[Value.ref b] meth c code 4 ret RL lw_tbl) (hK : va_K D vwCl (ty3 cI cZ cR) s) (hX : va_X b L xs s s.heap) (hbl : b < s.heap.size) (hL : L ≤ 3072) (hSW : SW adK adV (lA s) s s.heap) : ∀ (n i : Nat), i ≤ L → L + 1 ≤ i + n → ∀ (I : Nat → Int32) (R : Nat → Nat → Int32) (J : Nat → Int32) (Q : Nat → Nat → Int32) (H : Heap) (locs : List Loc), Inv I R J Q → va_P D vwCl (wX cI cZ cR ad I R ++ wM cI cZ cR ad J Q) H → va_D (lA s) (wX cI cZ cR ad I R ++ wM cI cZ cR ad J Q) → va_S (lA s) s.heap H locs → ∀ (ls : Array Slot), lv_has ls 4 [(0, .ref b), (1, .ref (ad 0)), (2, .ref (ad 70)), (3, .int (nI i))] → LW p l e s m below meth c b H locs 18 ls [] := by
  obtain ⟨hx, hb, hml, hr, hown, hts, hlocks, hN⟩ := id X
  have hbA : ¬ lA s b := Nat.not_le.mpr hbl
  intro n
  induction n with
  | zero => intro i h1 h2; exact absurd h2 (by omega)
  | succ n ih =>
    intro i hi hin I R J Q H locs hI hP hD hS ls hl
    refine lv_iload_n hx hb dL_law_18 rfl (lv_at hl 3 rfl) ?_
    refine lv_aload_n hx hb dL_law_19 rfl (lv_at hl 0 rfl) ?_
    refine va_slen hx hb hX hbl hbA hS dL_law_20 ?_
    refine lv_bipush (v := (6 : Int32)) hx hb dL_law_21 (by decide) ?_
    refine lv_isub hx hb dL_law_23 ?_
    refine lv_icmp_gt (tgt := 1205) hx hb dL_law_24 (by decide) (fun c1 => ?_) (fun c1 => ?_)
    · refine lv_iconst (v := 1) hx hb dL_law_1205 (by decide) ?_
      refine va_forget (fun q hq => hS.2.2 q hq) ?_
      refine W.widen (k := 600000) (n := 7302250) (Nat.le_of_ble_eq_true rfl) (Nat.le_of_ble_eq_true rfl) ?_
      exact lw_ret hx hb hr hlocks dL_law_1206
    · have hi6 : i + 6 ≤ L := lim_in hL hi c1
      refine lv_aload_n hx hb dL_law_27 rfl (lv_at hl 0 rfl) ?_
      refine lv_iload_n hx hb dL_law_28 rfl (lv_at hl 3 rfl) ?_
      refine va_sld hx hb hX hbl hbA hS (vp_in_nI (by omega) (by omega)) dL_law_29 ?_
      refine lv_bipush (v := (31 : Int32)) hx hb dL_law_30 (by decide) ?_
      refine lv_iand hx hb dL_law_32 ?_
      refine law_case X hK hX hbl hL hSW hi6 hI hP hD hS hl ?_
      intro I2 R2 J2 Q2 H2 locs2 hI2 hP2 hD2 hS2
      refine lv_iinc (v := nI (i + 6)) (lv' := [(3, .int (nI (i + 6))), (0, .ref b), (1, .ref (ad 0)), (2, .ref (ad 70))]) hx hb dL_law_1199 hl (k := 3) rfl (by first | exact nI_add i 6 | (rw [← nI_add]; rfl)) (by decide) rfl (fun ls hl => ?_)
      refine lv_goto (tgt := 18) hx hb dL_law_1202 (by decide) ?_
      exact ih (i + 6) hi6 (by omega) _ _ _ _ _ _ hI2 hP2 hD2 hS2 ls (lv_sub hl [1, 2, 3, 0] rfl)
end LAWLOOP
