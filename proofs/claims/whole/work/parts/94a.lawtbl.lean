/-! the law: the words of its calls are among the tables -/
def ltsub (k : Nat) : List Cond := match k with | 1 => tables_1_1 | 2 => tables_1_2 | 3 => tables_1_3 | 4 => tables_1_4 | 5 => tables_1_5 | 6 => tables_1_6 | 7 => tables_1_7 | 8 => k2_sels lw_privs_1 | 9 => k2_sels lw_privs_2 | 10 => k2_sels lw_privs_3 | 11 => k2_sels lw_privs_4 | 12 => k2_sels lw_privs_5 | 13 => k2_sels lw_privs_6 | _ => k2_sels lw_privs_7
theorem ltsub_in (k : Nat) : ∀ w ∈ ltsub k, w ∈ lw_tbl := by
  intro w h
  have hS : ∀ ys : List (MethodName × Nat), (∀ y ∈ ys, y ∈ lw_privs) → w ∈ k2_sels ys → w ∈ lw_tbl := by
    intro ys hy hw
    obtain ⟨q, hq, e⟩ := List.mem_map.mp hw
    exact List.mem_append_left _ (List.mem_map.mpr ⟨q, hy q hq, e⟩)
  have hT : w ∈ tables_1 → w ∈ lw_tbl := fun q => List.mem_append_right _ q
  unfold ltsub at h
  split at h
  · exact hT (List.mem_append_left _ h)
  · exact hT (List.mem_append_right _ (List.mem_append_left _ h))
  · exact hT (List.mem_append_right _ (List.mem_append_right _ (List.mem_append_left _ h)))
  · exact hT (List.mem_append_right _ (List.mem_append_right _ (List.mem_append_right _ (List.mem_append_left _ h))))
  · exact hT (List.mem_append_right _ (List.mem_append_right _ (List.mem_append_right _ (List.mem_append_right _ (List.mem_append_left _ h)))))
  · exact hT (List.mem_append_right _ (List.mem_append_right _ (List.mem_append_right _ (List.mem_append_right _ (List.mem_append_right _ (List.mem_append_left _ h))))))
  · exact hT (List.mem_append_right _ (List.mem_append_right _ (List.mem_append_right _ (List.mem_append_right _ (List.mem_append_right _ (List.mem_append_right _ h))))))
  · exact hS _ (fun y q => (List.mem_append_left _ q)) h
  · exact hS _ (fun y q => (List.mem_append_right _ (List.mem_append_left _ q))) h
  · exact hS _ (fun y q => (List.mem_append_right _ (List.mem_append_right _ (List.mem_append_left _ q)))) h
  · exact hS _ (fun y q => (List.mem_append_right _ (List.mem_append_right _ (List.mem_append_right _ (List.mem_append_left _ q))))) h
  · exact hS _ (fun y q => (List.mem_append_right _ (List.mem_append_right _ (List.mem_append_right _ (List.mem_append_right _ (List.mem_append_left _ q)))))) h
  · exact hS _ (fun y q => (List.mem_append_right _ (List.mem_append_right _ (List.mem_append_right _ (List.mem_append_right _ (List.mem_append_right _ (List.mem_append_left _ q))))))) h
  · exact hS _ (fun y q => (List.mem_append_right _ (List.mem_append_right _ (List.mem_append_right _ (List.mem_append_right _ (List.mem_append_right _ (List.mem_append_right _ q))))))) h
theorem good_pick (ws : List Cond) (ps : List (Nat × Nat)) (hp : ws = ps.filterMap (fun q => (ltsub q.1)[q.2]?)) (h : ws.all goodWord = true) : GoodIn lw_tbl ws := by
  intro w hw
  have h1 := List.all_eq_true.mp h w hw
  rw [hp] at hw
  obtain ⟨q, -, hq⟩ := List.mem_filterMap.mp hw
  exact ⟨ltsub_in q.1 w (List.mem_of_getElem? hq), good_of_word h1⟩
theorem goodIn_c {big a : List Cond} {c : Cond} (hc : GoodIn big [c]) (ha : GoodIn big a) : GoodIn big (c :: a) := fun w h => (List.mem_cons.mp h).elim (fun e => hc w (List.mem_singleton.mpr e)) (ha w)
set_option maxRecDepth 100000 in
theorem ltbX11 : GoodIn lw_tbl wsX110 := good_pick _ [(2, 102), (2, 104), (2, 106), (2, 108), (2, 110), (2, 112), (2, 114), (2, 116), (2, 118), (2, 120), (2, 122), (2, 124), (2, 126)] (by decide +kernel) (by decide +kernel)
set_option maxRecDepth 100000 in
theorem ltbX12 : GoodIn lw_tbl wsX120 := good_pick _ [(5, 112), (5, 114), (5, 116), (5, 118), (5, 120), (5, 122), (5, 124), (5, 126), (5, 128), (5, 130), (5, 132), (5, 134), (5, 136), (5, 138), (5, 140), (5, 142), (5, 144), (5, 146), (5, 148), (5, 150), (5, 152), (5, 154), (5, 156), (5, 158), (5, 160), (5, 162), (5, 164), (5, 166), (5, 168), (5, 170), (5, 172), (5, 174), (5, 176), (5, 178), (5, 180), (5, 182), (5, 184), (5, 186), (5, 188), (5, 190), (5, 192), (5, 194), (5, 196), (5, 198), (5, 200), (5, 202), (5, 204), (5, 206), (5, 208), (5, 210), (5, 212), (5, 214)] (by decide +kernel) (by decide +kernel)
set_option maxRecDepth 100000 in
theorem ltbX3 : GoodIn lw_tbl wsX30 := good_pick _ [(1, 44), (1, 46), (1, 48), (1, 50), (1, 52), (1, 54), (1, 56)] (by decide +kernel) (by decide +kernel)
set_option maxRecDepth 100000 in
theorem ltbX7 : GoodIn lw_tbl wsX70 := good_pick _ [(1, 74), (1, 76), (1, 78), (1, 80)] (by decide +kernel) (by decide +kernel)
set_option maxRecDepth 100000 in
theorem ltbX5 : GoodIn lw_tbl wsX50 := good_pick _ [(1, 111), (1, 113), (1, 115), (1, 117), (1, 119), (1, 121), (1, 123), (1, 125), (1, 127), (1, 129), (1, 131), (1, 133), (1, 135), (1, 137), (1, 139), (1, 141), (1, 143)] (by decide +kernel) (by decide +kernel)
set_option maxRecDepth 100000 in
theorem ltbX6 : GoodIn lw_tbl wsX60 := good_pick _ [(1, 187), (1, 189), (1, 191), (1, 193)] (by decide +kernel) (by decide +kernel)
set_option maxRecDepth 100000 in
theorem ltbX1 : GoodIn lw_tbl wsX10 := good_pick _ [(1, 208), (1, 210), (1, 212)] (by decide +kernel) (by decide +kernel)
set_option maxRecDepth 100000 in
theorem ltbX10 : GoodIn lw_tbl wsX100 := good_pick _ [(1, 226), (1, 228), (1, 230), (1, 232), (1, 234)] (by decide +kernel) (by decide +kernel)
set_option maxRecDepth 100000 in
theorem ltbX4 : GoodIn lw_tbl wsX40 := good_pick _ [(2, 13), (2, 15), (2, 17), (2, 19), (2, 21), (2, 23), (2, 25)] (by decide +kernel) (by decide +kernel)
set_option maxRecDepth 100000 in
theorem ltbX2 : GoodIn lw_tbl wsX20 := good_pick _ [(2, 44), (2, 46), (2, 48), (2, 50), (2, 52)] (by decide +kernel) (by decide +kernel)
set_option maxRecDepth 100000 in
theorem ltbX0 : GoodIn lw_tbl wsX00 := good_pick _ [(2, 70), (2, 72), (2, 74), (2, 76), (2, 78), (2, 80), (2, 82), (2, 84), (2, 86)] (by decide +kernel) (by decide +kernel)
set_option maxRecDepth 100000 in
theorem ltbX9 : GoodIn lw_tbl wsX90 := good_pick _ [(1, 171), (1, 173), (1, 175), (1, 177), (1, 179)] (by decide +kernel) (by decide +kernel)
