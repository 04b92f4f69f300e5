abbrev wd_X8_isSum (cI cZ cR : ClassId) : va_W := []
set_option maxHeartbeats 4000000 in
set_option maxRecDepth 100000 in
theorem c_X8_isSum (l : Launch) (D : va_G) (cI cZ cR : ClassId) {x0 : Int32} {sz : Nat} {out : Int32} (hf : F_X8_isSum x0 = some out) : CI l yX8_isSum wsX8_isSum ({ frames := 0, cells := 0, slots := 0, locals := 0 } : Room) D cI cZ cR [.int x0] (wd_X8_isSum cI cZ cR) sz (out) (wd_X8_isSum cI cZ cR) := by
  refine met_of (Qf := fun A => qi D cI cZ cR A (out) (wd_X8_isSum cI cZ cR)) RX8 (by decide +kernel) rfl rfl (Nat.le_of_ble_eq_true rfl) ?_
  intro p e s m below meth c A X hK hA hP hD hS ls hl
  have hl : lv_has ls 1 [(0, .int x0)] := hl
  obtain ⟨hx, hb, hml, hr, hown, hts, hlocks, hN⟩ := id X
  unfold F_X8_isSum at hf
  refine lv_iload_n hx hb dX8_isSum_0 rfl (lv_at hl 0 rfl) ?_
  refine lv_bipush (v := (15 : Int32)) hx hb dX8_isSum_1 (by decide) ?_
  refine lv_icmp_eq (tgt := 18) hx hb dX8_isSum_3 (by decide) (fun c1 => ?_) (fun c1 => ?_)
  · have hf := ipos c1 hf
    refine lv_iconst (v := (1 : Int32)) hx hb dX8_isSum_18 (by decide) ?_
    refine lv_goto (tgt := 23) hx hb dX8_isSum_19 (by decide) ?_
    cases hf
    exact retz (Or.inr rfl) X hK hP hD hS dX8_isSum_23
  · have hf := ineg c1 hf
    refine lv_iload_n hx hb dX8_isSum_6 rfl (lv_at hl 0 rfl) ?_
    refine lv_bipush (v := (16 : Int32)) hx hb dX8_isSum_7 (by decide) ?_
    refine lv_icmp_eq (tgt := 18) hx hb dX8_isSum_9 (by decide) (fun c2 => ?_) (fun c2 => ?_)
    · have hf := ipos c2 hf
      refine lv_iconst (v := (1 : Int32)) hx hb dX8_isSum_18 (by decide) ?_
      refine lv_goto (tgt := 23) hx hb dX8_isSum_19 (by decide) ?_
      cases hf
      exact retz (Or.inr rfl) X hK hP hD hS dX8_isSum_23
    · have hf := ineg c2 hf
      refine lv_iload_n hx hb dX8_isSum_12 rfl (lv_at hl 0 rfl) ?_
      refine lv_bipush (v := (17 : Int32)) hx hb dX8_isSum_13 (by decide) ?_
      refine lv_icmp_ne (tgt := 22) hx hb dX8_isSum_15 (by decide) (fun c3 => ?_) (fun c3 => ?_)
      · have hf := ineg c3 hf
        refine lv_iconst (v := (0 : Int32)) hx hb dX8_isSum_22 (by decide) ?_
        cases hf
        exact retz (Or.inl rfl) X hK hP hD hS dX8_isSum_23
      · have hf := ipos c3 hf
        refine lv_iconst (v := (1 : Int32)) hx hb dX8_isSum_18 (by decide) ?_
        refine lv_goto (tgt := 23) hx hb dX8_isSum_19 (by decide) ?_
        cases hf
        exact retz (Or.inr rfl) X hK hP hD hS dX8_isSum_23

abbrev wd_X8_isComparison (cI cZ cR : ClassId) : va_W := []
set_option maxHeartbeats 4000000 in
set_option maxRecDepth 100000 in
theorem c_X8_isComparison (l : Launch) (D : va_G) (cI cZ cR : ClassId) {x0 : Int32} {sz : Nat} {out : Int32} (hf : F_X8_isComparison x0 = some out) : CI l yX8_isComparison wsX8_isComparison ({ frames := 0, cells := 0, slots := 0, locals := 0 } : Room) D cI cZ cR [.int x0] (wd_X8_isComparison cI cZ cR) sz (out) (wd_X8_isComparison cI cZ cR) := by
  refine met_of (Qf := fun A => qi D cI cZ cR A (out) (wd_X8_isComparison cI cZ cR)) RX8 (by decide +kernel) rfl rfl (Nat.le_of_ble_eq_true rfl) ?_
  intro p e s m below meth c A X hK hA hP hD hS ls hl
  have hl : lv_has ls 1 [(0, .int x0)] := hl
  obtain ⟨hx, hb, hml, hr, hown, hts, hlocks, hN⟩ := id X
  unfold F_X8_isComparison at hf
  refine lv_iload_n hx hb dX8_isComparison_0 rfl (lv_at hl 0 rfl) ?_
  refine lv_bipush (v := (18 : Int32)) hx hb dX8_isComparison_1 (by decide) ?_
  refine lv_icmp_eq (tgt := 18) hx hb dX8_isComparison_3 (by decide) (fun c1 => ?_) (fun c1 => ?_)
  · have hf := ipos c1 hf
    refine lv_iconst (v := (1 : Int32)) hx hb dX8_isComparison_18 (by decide) ?_
    refine lv_goto (tgt := 23) hx hb dX8_isComparison_19 (by decide) ?_
    cases hf
    exact retz (Or.inr rfl) X hK hP hD hS dX8_isComparison_23
  · have hf := ineg c1 hf
    refine lv_iload_n hx hb dX8_isComparison_6 rfl (lv_at hl 0 rfl) ?_
    refine lv_bipush (v := (19 : Int32)) hx hb dX8_isComparison_7 (by decide) ?_
    refine lv_icmp_eq (tgt := 18) hx hb dX8_isComparison_9 (by decide) (fun c2 => ?_) (fun c2 => ?_)
    · have hf := ipos c2 hf
      refine lv_iconst (v := (1 : Int32)) hx hb dX8_isComparison_18 (by decide) ?_
      refine lv_goto (tgt := 23) hx hb dX8_isComparison_19 (by decide) ?_
      cases hf
      exact retz (Or.inr rfl) X hK hP hD hS dX8_isComparison_23
    · have hf := ineg c2 hf
      refine lv_iload_n hx hb dX8_isComparison_12 rfl (lv_at hl 0 rfl) ?_
      refine lv_bipush (v := (20 : Int32)) hx hb dX8_isComparison_13 (by decide) ?_
      refine lv_icmp_ne (tgt := 22) hx hb dX8_isComparison_15 (by decide) (fun c3 => ?_) (fun c3 => ?_)
      · have hf := ineg c3 hf
        refine lv_iconst (v := (0 : Int32)) hx hb dX8_isComparison_22 (by decide) ?_
        cases hf
        exact retz (Or.inl rfl) X hK hP hD hS dX8_isComparison_23
      · have hf := ipos c3 hf
        refine lv_iconst (v := (1 : Int32)) hx hb dX8_isComparison_18 (by decide) ?_
        refine lv_goto (tgt := 23) hx hb dX8_isComparison_19 (by decide) ?_
        cases hf
        exact retz (Or.inr rfl) X hK hP hD hS dX8_isComparison_23

abbrev wd_X8_rank (cI cZ cR : ClassId) : va_W := []
set_option maxHeartbeats 4000000 in
set_option maxRecDepth 100000 in
theorem c_X8_rank (l : Launch) (D : va_G) (cI cZ cR : ClassId) {x0 : Int32} {sz : Nat} {out : Int32} (hf : F_X8_rank x0 = some out) : CI l yX8_rank wsX8_rank ({ frames := 0, cells := 0, slots := 0, locals := 0 } : Room) D cI cZ cR [.int x0] (wd_X8_rank cI cZ cR) sz (out) (wd_X8_rank cI cZ cR) := by
  refine met_of (Qf := fun A => qi D cI cZ cR A (out) (wd_X8_rank cI cZ cR)) RX8 (by decide +kernel) rfl rfl (Nat.le_of_ble_eq_true rfl) ?_
  intro p e s m below meth c A X hK hA hP hD hS ls hl
  have hl : lv_has ls 1 [(0, .int x0)] := hl
  obtain ⟨hx, hb, hml, hr, hown, hts, hlocks, hN⟩ := id X
  unfold F_X8_rank at hf
  refine lv_iload_n hx hb dX8_rank_0 rfl (lv_at hl 0 rfl) ?_
  by_cases c1 : x0 = (14 : Int32)
  · have hf := ipos c1 hf
    refine lv_tableIn (tgt := 56) hx hb dX8_rank_1 (by rw [c1]; decide) (by rw [c1]; decide) (by rw [c1]; rfl) (by decide) ?_
    refine lv_iconst (v := (3 : Int32)) hx hb dX8_rank_56 (by decide) ?_
    cases hf
    exact reti X hK hP hD hS dX8_rank_57
  have hf := ineg c1 hf
  by_cases c2 : x0 = (15 : Int32)
  · have hf := ipos c2 hf
    refine lv_tableIn (tgt := 60) hx hb dX8_rank_1 (by rw [c2]; decide) (by rw [c2]; decide) (by rw [c2]; rfl) (by decide) ?_
    refine lv_iconst (v := (5 : Int32)) hx hb dX8_rank_60 (by decide) ?_
    cases hf
    exact reti X hK hP hD hS dX8_rank_61
  have hf := ineg c2 hf
  by_cases c3 : x0 = (16 : Int32)
  · have hf := ipos c3 hf
    refine lv_tableIn (tgt := 60) hx hb dX8_rank_1 (by rw [c3]; decide) (by rw [c3]; decide) (by rw [c3]; rfl) (by decide) ?_
    refine lv_iconst (v := (5 : Int32)) hx hb dX8_rank_60 (by decide) ?_
    cases hf
    exact reti X hK hP hD hS dX8_rank_61
  have hf := ineg c3 hf
  by_cases c4 : x0 = (17 : Int32)
  · have hf := ipos c4 hf
    refine lv_tableIn (tgt := 62) hx hb dX8_rank_1 (by rw [c4]; decide) (by rw [c4]; decide) (by rw [c4]; rfl) (by decide) ?_
    refine lv_bipush (v := (6 : Int32)) hx hb dX8_rank_62 (by decide) ?_
    cases hf
    exact reti X hK hP hD hS dX8_rank_64
  have hf := ineg c4 hf
  by_cases c5 : x0 = (18 : Int32)
  · have hf := ipos c5 hf
    refine lv_tableIn (tgt := 58) hx hb dX8_rank_1 (by rw [c5]; decide) (by rw [c5]; decide) (by rw [c5]; rfl) (by decide) ?_
    refine lv_iconst (v := (4 : Int32)) hx hb dX8_rank_58 (by decide) ?_
    cases hf
    exact reti X hK hP hD hS dX8_rank_59
  have hf := ineg c5 hf
  by_cases c6 : x0 = (19 : Int32)
  · have hf := ipos c6 hf
    refine lv_tableIn (tgt := 58) hx hb dX8_rank_1 (by rw [c6]; decide) (by rw [c6]; decide) (by rw [c6]; rfl) (by decide) ?_
    refine lv_iconst (v := (4 : Int32)) hx hb dX8_rank_58 (by decide) ?_
    cases hf
    exact reti X hK hP hD hS dX8_rank_59
  have hf := ineg c6 hf
  by_cases c7 : x0 = (20 : Int32)
  · have hf := ipos c7 hf
    refine lv_tableIn (tgt := 58) hx hb dX8_rank_1 (by rw [c7]; decide) (by rw [c7]; decide) (by rw [c7]; rfl) (by decide) ?_
    refine lv_iconst (v := (4 : Int32)) hx hb dX8_rank_58 (by decide) ?_
    cases hf
    exact reti X hK hP hD hS dX8_rank_59
  have hf := ineg c7 hf
  by_cases c8 : x0 = (21 : Int32)
  · have hf := ipos c8 hf
    refine lv_tableIn (tgt := 54) hx hb dX8_rank_1 (by rw [c8]; decide) (by rw [c8]; decide) (by rw [c8]; rfl) (by decide) ?_
    refine lv_iconst (v := (2 : Int32)) hx hb dX8_rank_54 (by decide) ?_
    cases hf
    exact reti X hK hP hD hS dX8_rank_55
  have hf := ineg c8 hf
  by_cases c9 : x0 = (22 : Int32)
  · have hf := ipos c9 hf
    refine lv_tableIn (tgt := 52) hx hb dX8_rank_1 (by rw [c9]; decide) (by rw [c9]; decide) (by rw [c9]; rfl) (by decide) ?_
    refine lv_iconst (v := (1 : Int32)) hx hb dX8_rank_52 (by decide) ?_
    cases hf
    exact reti X hK hP hD hS dX8_rank_53
  have hf := ineg c9 hf
  refine lv_tableOut (tgt := 65) hx hb dX8_rank_1 (tout 14 8 (fun k hk => by match k, hk with | 0, _ => exact c1 | 1, _ => exact c2 | 2, _ => exact c3 | 3, _ => exact c4 | 4, _ => exact c5 | 5, _ => exact c6 | 6, _ => exact c7 | 7, _ => exact c8 | 8, _ => exact c9 | (q + 9), hk => exact absurd hk (by omega)) rfl rfl (by decide)) (by decide) ?_
  refine lv_iconst (v := (0 : Int32)) hx hb dX8_rank_65 (by decide) ?_
  cases hf
  exact reti X hK hP hD hS dX8_rank_66

abbrev wd_X8_ofMark (cI cZ cR : ClassId) : va_W := []
set_option maxHeartbeats 4000000 in
set_option maxRecDepth 100000 in
theorem c_X8_ofMark (l : Launch) (D : va_G) (cI cZ cR : ClassId) {x0 : Int32} {sz : Nat} {out : Int32} (hf : F_X8_ofMark x0 = some out) : CI l yX8_ofMark wsX8_ofMark ({ frames := 0, cells := 0, slots := 0, locals := 0 } : Room) D cI cZ cR [.int x0] (wd_X8_ofMark cI cZ cR) sz (out) (wd_X8_ofMark cI cZ cR) := by
  refine met_of (Qf := fun A => qi D cI cZ cR A (out) (wd_X8_ofMark cI cZ cR)) RX8 (by decide +kernel) rfl rfl (Nat.le_of_ble_eq_true rfl) ?_
  intro p e s m below meth c A X hK hA hP hD hS ls hl
  have hl : lv_has ls 1 [(0, .int x0)] := hl
  obtain ⟨hx, hb, hml, hr, hown, hts, hlocks, hN⟩ := id X
  unfold F_X8_ofMark at hf
  refine lv_iload_n hx hb dX8_ofMark_0 rfl (lv_at hl 0 rfl) ?_
  by_cases c1 : x0 = (40 : Int32)
  · have hf := ipos c1 hf
    refine lv_tableIn (tgt := 119) hx hb dX8_ofMark_1 (by rw [c1]; decide) (by rw [c1]; decide) (by rw [c1]; rfl) (by decide) ?_
    refine lv_iconst (v := (3 : Int32)) hx hb dX8_ofMark_119 (by decide) ?_
    cases hf
    exact reti X hK hP hD hS dX8_ofMark_120
  have hf := ineg c1 hf
  by_cases c2 : x0 = (41 : Int32)
  · have hf := ipos c2 hf
    refine lv_tableIn (tgt := 121) hx hb dX8_ofMark_1 (by rw [c2]; decide) (by rw [c2]; decide) (by rw [c2]; rfl) (by decide) ?_
    refine lv_iconst (v := (4 : Int32)) hx hb dX8_ofMark_121 (by decide) ?_
    cases hf
    exact reti X hK hP hD hS dX8_ofMark_122
  have hf := ineg c2 hf
  by_cases c3 : x0 = (42 : Int32)
  · have hf := ipos c3 hf
    refine lv_tableIn (tgt := 116) hx hb dX8_ofMark_1 (by rw [c3]; decide) (by rw [c3]; decide) (by rw [c3]; rfl) (by decide) ?_
    refine lv_bipush (v := (17 : Int32)) hx hb dX8_ofMark_116 (by decide) ?_
    cases hf
    exact reti X hK hP hD hS dX8_ofMark_118
  have hf := ineg c3 hf
  by_cases c4 : x0 = (43 : Int32)
  · have hf := ipos c4 hf
    refine lv_tableIn (tgt := 110) hx hb dX8_ofMark_1 (by rw [c4]; decide) (by rw [c4]; decide) (by rw [c4]; rfl) (by decide) ?_
    refine lv_bipush (v := (15 : Int32)) hx hb dX8_ofMark_110 (by decide) ?_
    cases hf
    exact reti X hK hP hD hS dX8_ofMark_112
  have hf := ineg c4 hf
  by_cases c5 : x0 = (44 : Int32)
  · have hf := ipos c5 hf
    refine lv_tableIn (tgt := 132) hx hb dX8_ofMark_1 (by rw [c5]; decide) (by rw [c5]; decide) (by rw [c5]; rfl) (by decide) ?_
    refine lv_iconst (v := (1 : Int32)) hx hb dX8_ofMark_132 (by decide) ?_
    cases hf
    exact reti X hK hP hD hS dX8_ofMark_133
  have hf := ineg c5 hf
  by_cases c6 : x0 = (45 : Int32)
  · have hf := ipos c6 hf
    refine lv_tableIn (tgt := 113) hx hb dX8_ofMark_1 (by rw [c6]; decide) (by rw [c6]; decide) (by rw [c6]; rfl) (by decide) ?_
    refine lv_bipush (v := (16 : Int32)) hx hb dX8_ofMark_113 (by decide) ?_
    cases hf
    exact reti X hK hP hD hS dX8_ofMark_115
  have hf := ineg c6 hf
  by_cases c7 : x0 = (46 : Int32)
  · have hf := ipos c7 hf
    refine lv_tableIn (tgt := 132) hx hb dX8_ofMark_1 (by rw [c7]; decide) (by rw [c7]; decide) (by rw [c7]; rfl) (by decide) ?_
    refine lv_iconst (v := (1 : Int32)) hx hb dX8_ofMark_132 (by decide) ?_
    cases hf
    exact reti X hK hP hD hS dX8_ofMark_133
  have hf := ineg c7 hf
  by_cases c8 : x0 = (47 : Int32)
  · have hf := ipos c8 hf
    refine lv_tableIn (tgt := 132) hx hb dX8_ofMark_1 (by rw [c8]; decide) (by rw [c8]; decide) (by rw [c8]; rfl) (by decide) ?_
    refine lv_iconst (v := (1 : Int32)) hx hb dX8_ofMark_132 (by decide) ?_
    cases hf
    exact reti X hK hP hD hS dX8_ofMark_133
  have hf := ineg c8 hf
  by_cases c9 : x0 = (48 : Int32)
  · have hf := ipos c9 hf
    refine lv_tableIn (tgt := 132) hx hb dX8_ofMark_1 (by rw [c9]; decide) (by rw [c9]; decide) (by rw [c9]; rfl) (by decide) ?_
    refine lv_iconst (v := (1 : Int32)) hx hb dX8_ofMark_132 (by decide) ?_
    cases hf
    exact reti X hK hP hD hS dX8_ofMark_133
  have hf := ineg c9 hf
  by_cases c10 : x0 = (49 : Int32)
  · have hf := ipos c10 hf
    refine lv_tableIn (tgt := 132) hx hb dX8_ofMark_1 (by rw [c10]; decide) (by rw [c10]; decide) (by rw [c10]; rfl) (by decide) ?_
    refine lv_iconst (v := (1 : Int32)) hx hb dX8_ofMark_132 (by decide) ?_
    cases hf
    exact reti X hK hP hD hS dX8_ofMark_133
  have hf := ineg c10 hf
  by_cases c11 : x0 = (50 : Int32)
  · have hf := ipos c11 hf
    refine lv_tableIn (tgt := 132) hx hb dX8_ofMark_1 (by rw [c11]; decide) (by rw [c11]; decide) (by rw [c11]; rfl) (by decide) ?_
    refine lv_iconst (v := (1 : Int32)) hx hb dX8_ofMark_132 (by decide) ?_
    cases hf
    exact reti X hK hP hD hS dX8_ofMark_133
  have hf := ineg c11 hf
  by_cases c12 : x0 = (51 : Int32)
  · have hf := ipos c12 hf
    refine lv_tableIn (tgt := 132) hx hb dX8_ofMark_1 (by rw [c12]; decide) (by rw [c12]; decide) (by rw [c12]; rfl) (by decide) ?_
    refine lv_iconst (v := (1 : Int32)) hx hb dX8_ofMark_132 (by decide) ?_
    cases hf
    exact reti X hK hP hD hS dX8_ofMark_133
  have hf := ineg c12 hf
  by_cases c13 : x0 = (52 : Int32)
  · have hf := ipos c13 hf
    refine lv_tableIn (tgt := 132) hx hb dX8_ofMark_1 (by rw [c13]; decide) (by rw [c13]; decide) (by rw [c13]; rfl) (by decide) ?_
    refine lv_iconst (v := (1 : Int32)) hx hb dX8_ofMark_132 (by decide) ?_
    cases hf
    exact reti X hK hP hD hS dX8_ofMark_133
  have hf := ineg c13 hf
  by_cases c14 : x0 = (53 : Int32)
  · have hf := ipos c14 hf
    refine lv_tableIn (tgt := 132) hx hb dX8_ofMark_1 (by rw [c14]; decide) (by rw [c14]; decide) (by rw [c14]; rfl) (by decide) ?_
    refine lv_iconst (v := (1 : Int32)) hx hb dX8_ofMark_132 (by decide) ?_
    cases hf
    exact reti X hK hP hD hS dX8_ofMark_133
  have hf := ineg c14 hf
  by_cases c15 : x0 = (54 : Int32)
  · have hf := ipos c15 hf
    refine lv_tableIn (tgt := 132) hx hb dX8_ofMark_1 (by rw [c15]; decide) (by rw [c15]; decide) (by rw [c15]; rfl) (by decide) ?_
    refine lv_iconst (v := (1 : Int32)) hx hb dX8_ofMark_132 (by decide) ?_
    cases hf
    exact reti X hK hP hD hS dX8_ofMark_133
  have hf := ineg c15 hf
  by_cases c16 : x0 = (55 : Int32)
  · have hf := ipos c16 hf
    refine lv_tableIn (tgt := 132) hx hb dX8_ofMark_1 (by rw [c16]; decide) (by rw [c16]; decide) (by rw [c16]; rfl) (by decide) ?_
    refine lv_iconst (v := (1 : Int32)) hx hb dX8_ofMark_132 (by decide) ?_
    cases hf
    exact reti X hK hP hD hS dX8_ofMark_133
  have hf := ineg c16 hf
  by_cases c17 : x0 = (56 : Int32)
  · have hf := ipos c17 hf
    refine lv_tableIn (tgt := 132) hx hb dX8_ofMark_1 (by rw [c17]; decide) (by rw [c17]; decide) (by rw [c17]; rfl) (by decide) ?_
    refine lv_iconst (v := (1 : Int32)) hx hb dX8_ofMark_132 (by decide) ?_
    cases hf
    exact reti X hK hP hD hS dX8_ofMark_133
  have hf := ineg c17 hf
  by_cases c18 : x0 = (57 : Int32)
  · have hf := ipos c18 hf
    refine lv_tableIn (tgt := 132) hx hb dX8_ofMark_1 (by rw [c18]; decide) (by rw [c18]; decide) (by rw [c18]; rfl) (by decide) ?_
    refine lv_iconst (v := (1 : Int32)) hx hb dX8_ofMark_132 (by decide) ?_
    cases hf
    exact reti X hK hP hD hS dX8_ofMark_133
  have hf := ineg c18 hf
  by_cases c19 : x0 = (58 : Int32)
  · have hf := ipos c19 hf
    refine lv_tableIn (tgt := 132) hx hb dX8_ofMark_1 (by rw [c19]; decide) (by rw [c19]; decide) (by rw [c19]; rfl) (by decide) ?_
    refine lv_iconst (v := (1 : Int32)) hx hb dX8_ofMark_132 (by decide) ?_
    cases hf
    exact reti X hK hP hD hS dX8_ofMark_133
  have hf := ineg c19 hf
  by_cases c20 : x0 = (59 : Int32)
  · have hf := ipos c20 hf
    refine lv_tableIn (tgt := 108) hx hb dX8_ofMark_1 (by rw [c20]; decide) (by rw [c20]; decide) (by rw [c20]; rfl) (by decide) ?_
    refine lv_iconst (v := (2 : Int32)) hx hb dX8_ofMark_108 (by decide) ?_
    cases hf
    exact reti X hK hP hD hS dX8_ofMark_109
  have hf := ineg c20 hf
  by_cases c21 : x0 = (60 : Int32)
  · have hf := ipos c21 hf
    refine lv_tableIn (tgt := 123) hx hb dX8_ofMark_1 (by rw [c21]; decide) (by rw [c21]; decide) (by rw [c21]; rfl) (by decide) ?_
    refine lv_bipush (v := (18 : Int32)) hx hb dX8_ofMark_123 (by decide) ?_
    cases hf
    exact reti X hK hP hD hS dX8_ofMark_125
  have hf := ineg c21 hf
  by_cases c22 : x0 = (61 : Int32)
  · have hf := ipos c22 hf
    refine lv_tableIn (tgt := 126) hx hb dX8_ofMark_1 (by rw [c22]; decide) (by rw [c22]; decide) (by rw [c22]; rfl) (by decide) ?_
    refine lv_bipush (v := (19 : Int32)) hx hb dX8_ofMark_126 (by decide) ?_
    cases hf
    exact reti X hK hP hD hS dX8_ofMark_128
  have hf := ineg c22 hf
  by_cases c23 : x0 = (62 : Int32)
  · have hf := ipos c23 hf
    refine lv_tableIn (tgt := 129) hx hb dX8_ofMark_1 (by rw [c23]; decide) (by rw [c23]; decide) (by rw [c23]; rfl) (by decide) ?_
    refine lv_bipush (v := (20 : Int32)) hx hb dX8_ofMark_129 (by decide) ?_
    cases hf
    exact reti X hK hP hD hS dX8_ofMark_131
  have hf := ineg c23 hf
  refine lv_tableOut (tgt := 132) hx hb dX8_ofMark_1 (tout 40 22 (fun k hk => by match k, hk with | 0, _ => exact c1 | 1, _ => exact c2 | 2, _ => exact c3 | 3, _ => exact c4 | 4, _ => exact c5 | 5, _ => exact c6 | 6, _ => exact c7 | 7, _ => exact c8 | 8, _ => exact c9 | 9, _ => exact c10 | 10, _ => exact c11 | 11, _ => exact c12 | 12, _ => exact c13 | 13, _ => exact c14 | 14, _ => exact c15 | 15, _ => exact c16 | 16, _ => exact c17 | 17, _ => exact c18 | 18, _ => exact c19 | 19, _ => exact c20 | 20, _ => exact c21 | 21, _ => exact c22 | 22, _ => exact c23 | (q + 23), hk => exact absurd hk (by omega)) rfl rfl (by decide)) (by decide) ?_
  refine lv_iconst (v := (1 : Int32)) hx hb dX8_ofMark_132 (by decide) ?_
  cases hf
  exact reti X hK hP hD hS dX8_ofMark_133
