/-! leasts, least: both sides -/
section LB
variable {mem day tld blo wei : Nat → Int32} {d k : Int32} {N M : Nat}
/-- what the class finds of the least ones -/
theorem findLeasts_s {sin sal : Int32} {mo sw code cm op arg : Nat → Int32} {L : List (Nat × Nat)} {codes : Int32} {kin r : Nat} (hk : kin < 1024) (es : sin = nI kin) (hr : r < 4) (R : RuleIs L codes code r cm op arg) (stp : Bool) (fr ti ts lc lci lts : Int32) (row bits lcv lfo : Nat → Int32) (hT : TabOk sin sal mo sw L fr ti bits) :
    ∃ lci' lts' lcv' lfo' row' ts' bits', F_X11_findLeasts (nI r) (if stp = true then 1 else 0) lc lci lts lcv lfo codes code row fr ti ts bits sal sin mo sw = some (1, nI (mins stp kin bits' 1024).length, lci', lts', lcv', lfo', row', 1, sin, ts', bits') ∧ FDr stp kin bits' lfo' 1024 ∧ Truth sin sal mo sw L bits' 1024 ∧ (ts' = 0 ∨ (ts' = ts ∧ bits' = bits ∧ (1 : Int32) = fr)) := by
  have hsin : ∀ i, 10 ≤ i → i < 32 → bt sin i = false := by rw [es]; exact nI_hi hk
  obtain ⟨row', ts', bits', h1, h2, h3⟩ := tableOf_in hr R hsin fr ti ts row bits hT
  have hts : ts' = 0 ∨ (ts' = ts ∧ bits' = bits ∧ (1 : Int32) = fr) := by
    rcases h3 with q | ⟨q1, q2, q3⟩
    · exact Or.inl q
    · exact Or.inr ⟨q1, q2, q3.symm⟩
  obtain ⟨ci', tt', cv', fo', g1, g2⟩ := seek_s (stp := stp) (bits := bits') hk lc lci lts lcv lfo
  refine ⟨ci', tt', cv', fo', row', ts', bits', ?_, g2, h2, hts⟩
  unfold F_X11_findLeasts
  rw [h1, Option.bind_some]
  dsimp only
  rw [if_neg one_ne, es]
  cases stp
  · rw [show (if false = true then (1 : Int32) else 0) = 0 from rfl] at g1 ⊢
    rw [inside_s, if_pos (show (0 : Int32) ≤ 0 ∧ (0 : Int32) < 2 by decide), Option.bind_some, if_neg one_ne, if_neg (show ¬ (0 : Int32) = 1 by decide), g1, Option.bind_some]
  · rw [show (if true = true then (1 : Int32) else 0) = 1 from rfl] at g1 ⊢
    rw [inside_s, if_pos (show (0 : Int32) ≤ 1 ∧ (1 : Int32) < 2 by decide), Option.bind_some, if_neg one_ne, if_pos rfl, g1, Option.bind_some]
theorem in01 {y : Int32} (h : 0 ≤ y ∧ y ≤ 1) : ∃ stp : Bool, y = if stp = true then 1 else 0 := by
  obtain ⟨j, hj, ej⟩ := nI_of2 (x := y) (M := 1) (n := 1) (by decide) (Int32.not_lt.mpr h.1) h.2
  rcases (show j = 0 ∨ j = 1 by omega) with e | e <;> subst e
  · exact ⟨false, ej⟩
  · exact ⟨true, ej⟩
theorem findLeasts_out {x y : Int32} (hy : ¬ (0 ≤ y ∧ y ≤ 1)) (sin sal codes fr ti ts lc lci lts : Int32) (mo sw code row bits lcv lfo row' bits' : Nat → Int32) (o fr' ti' ts' : Int32) (h : F_X11_tableOf x codes code row fr ti ts bits sal sin mo sw = some (o, row', fr', ti', ts', bits')) : F_X11_findLeasts x y lc lci lts lcv lfo codes code row fr ti ts bits sal sin mo sw = some (0, lc, lci, lts, lcv, lfo, row', fr', ti', ts', bits') := by
  unfold F_X11_findLeasts
  rw [h, Option.bind_some]
  dsimp only
  by_cases c : o = 0
  · rw [if_pos c]
  · rw [if_neg c, inside_in (a := 1) (by decide) y, isIn_s, if_neg hy, Option.bind_some, if_pos rfl]
theorem findLeasts_null {x y : Int32} (sin sal codes fr ti ts lc lci lts : Int32) (mo sw code row bits lcv lfo row' bits' : Nat → Int32) (fr' ti' ts' : Int32) (h : F_X11_tableOf x codes code row fr ti ts bits sal sin mo sw = some (0, row', fr', ti', ts', bits')) : F_X11_findLeasts x y lc lci lts lcv lfo codes code row fr ti ts bits sal sin mo sw = some (0, lc, lci, lts, lcv, lfo, row', fr', ti', ts', bits') := by
  unfold F_X11_findLeasts
  rw [h, Option.bind_some]
  dsimp only
  rw [if_pos rfl]
theorem leasts_both (hM : M ≤ 10) (hn : N ≤ 200) (hmem : ∀ i, i < N → ∃ mi, mi < M ∧ mem i = nI mi) {sin sal : Int32} {mo sw : Nat → Int32} (S : Seated mem day tld blo wei d k N sin sal mo sw) {L : List (Nat × Nat)} {codes fr ti ts lc lci lts : Int32} {code bits cm op arg lcv lfo : Nat → Int32} {x y : Int32} (R : ∀ r, r < 4 → x = nI r → RuleIs L codes code r cm op arg) (hT : TabOk sin sal mo sw L fr ti bits) (al ma we told : Int32) (row ca st rb rw0 : Nat → Int32) :
    ∃ a lc' lci' lts' lcv' lfo' row' fr' ti' ts' bits', F_X11_leasts x y lc lci lts lcv lfo codes code row fr ti ts bits sal sin mo sw = some (a, lc', lci', lts', lcv', lfo', row', fr', ti', ts', bits') ∧ (∃ o2, F_X12_leasts x y al ma (nI M) (nI N) told d k we arg rb ca cm op blo day mem tld wei st rw0 = some (a, o2)) ∧ TabOk sin sal mo sw L fr' ti' bits' ∧ (ts' = 0 ∨ (ts' = ts ∧ bits' = bits ∧ fr' = fr)) := by
  have hsin : ∀ i, 10 ≤ i → i < 32 → bt sin i = false := by rw [S.1]; exact sAll_hi (Nat.le_refl _)
  obtain ⟨kin, hk, ek⟩ := small10 hsin
  unfold F_X11_leasts F_X12_leasts
  rw [isRule_s]
  by_cases hx : 0 ≤ x ∧ x < 4
  · obtain ⟨r, hr31, er⟩ := nI_of (Int32.not_lt.mpr hx.1)
    subst er
    have hr : r < 4 := (nI_ltI (b := 4) hr31 (by omega)).mp hx.2
    have hR := R r hr rfl
    rw [inside_s, if_pos hx, isIn_s]
    simp only [Option.bind_some, if_neg one_ne]
    by_cases hy : 0 ≤ y ∧ y ≤ 1
    · obtain ⟨stp, ey⟩ := in01 hy
      obtain ⟨lci', lts', lcv', lfo', row', ts', bits', h1, h2, h3, h4⟩ := findLeasts_s hk ek hr hR stp fr ti ts lc lci lts row bits lcv lfo hT
      obtain ⟨ca', st', g1, g2⟩ := findCarry_s hM hn hmem S hr hR al ma we ca st rb rw0
      have hca : ∀ q, q < 1024 → ca' q = if tb bits' q = true then 1 else 0 := fun q hq => table_row h3 g2 hq
      have p35 := leasts_35 (stp := stp) (bits := bits') (ca := ca') (arg := arg) (cm := cm) (op := op) (blo := blo) (day := day) (mem := mem) (tld := tld) (wei := wei) (rb := (fun j => if j < M then sB mem day tld blo d k N j else rb j)) (st := st') (rw0 := (fun j => if j < M then sW mem day tld blo wei d k N j else rw0 j)) (M' := nI M) (NN' := nI N) (vd := d) (vk := k) (ma := sMany mem day tld blo d k N M) (told := 0) (we := sSum mem day tld blo wei d k N M) hk hca FU 0 (by unfold FU; omega) (by omega)
      rw [show (mins stp kin bits' 0).length = 0 from rfl, nI_0] at p35
      rw [if_pos hy, if_neg one_ne, ey, h1, g1, Option.bind_some, Option.bind_some]
      dsimp only
      rw [if_neg one_ne, ek, p35]
      exact ⟨_, _, _, _, _, _, _, _, _, _, _, rfl, ⟨_, rfl⟩, fun _ => ⟨rfl, rfl, ek ▸ h3⟩, h4⟩
    · obtain ⟨row', ts', bits', h1, h2, h3⟩ := tableOf_in hr hR hsin fr ti ts row bits hT
      rw [findLeasts_out hy _ _ _ _ _ _ _ _ _ _ _ _ _ _ _ _ _ _ _ _ _ _ h1, Option.bind_some, if_neg hy]
      dsimp only
      simp only [if_true]
      refine ⟨_, _, _, _, _, _, _, _, _, _, _, rfl, ⟨_, rfl⟩, fun _ => ⟨rfl, rfl, h2⟩, ?_⟩
      rcases h3 with q | ⟨q1, q2, q3⟩
      · exact Or.inl q
      · exact Or.inr ⟨q1, q2, q3.symm⟩
  · rw [findLeasts_null _ _ _ _ _ _ _ _ _ _ _ _ _ _ _ _ _ _ _ _ _ (tableOf_out hx _ _ _ _ _ _ _ _ _ _ _), inside_s x, if_neg hx]
    simp only [Option.bind_some, if_true]
    exact ⟨_, _, _, _, _, _, _, _, _, _, _, rfl, ⟨_, rfl⟩, hT, Or.inr ⟨rfl, rfl, rfl⟩⟩
theorem least_both (hM : M ≤ 10) (hn : N ≤ 200) (hmem : ∀ i, i < N → ∃ mi, mi < M ∧ mem i = nI mi) {sin sal : Int32} {mo sw : Nat → Int32} (S : Seated mem day tld blo wei d k N sin sal mo sw) {L : List (Nat × Nat)} {codes fr ti ts lc lci lts : Int32} {code bits cm op arg lcv lfo : Nat → Int32} {x y z : Int32} (R : ∀ r, r < 4 → x = nI r → RuleIs L codes code r cm op arg) (hT : TabOk sin sal mo sw L fr ti bits) (al ma we told : Int32) (row ca st rb rw0 : Nat → Int32) :
    ∃ a lc' lci' lts' lcv' lfo' row' fr' ti' ts' bits', F_X11_least x y z lc lci lts lcv lfo codes code row fr ti ts bits sal sin mo sw = some (a, lc', lci', lts', lcv', lfo', row', fr', ti', ts', bits') ∧ (∃ o2, F_X12_least x y z al ma (nI M) (nI N) told d k we arg rb ca cm op blo day mem tld wei st rw0 = some (a, o2)) ∧ TabOk sin sal mo sw L fr' ti' bits' ∧ (ts' = 0 ∨ (ts' = ts ∧ bits' = bits ∧ fr' = fr)) := by
  have hsin : ∀ i, 10 ≤ i → i < 32 → bt sin i = false := by rw [S.1]; exact sAll_hi (Nat.le_refl _)
  obtain ⟨kin, hk, ek⟩ := small10 hsin
  unfold F_X11_least F_X12_least
  rw [isRule_s]
  by_cases hx : 0 ≤ x ∧ x < 4
  · obtain ⟨r, hr31, er⟩ := nI_of (Int32.not_lt.mpr hx.1)
    subst er
    have hr : r < 4 := (nI_ltI (b := 4) hr31 (by omega)).mp hx.2
    have hR := R r hr rfl
    rw [inside_s, if_pos hx, isIn_s]
    simp only [Option.bind_some, if_neg one_ne]
    by_cases hy : 0 ≤ y ∧ y ≤ 1
    · obtain ⟨stp, ey⟩ := in01 hy
      obtain ⟨lci', lts', lcv', lfo', row', ts', bits', h1, h2, h3, h4⟩ := findLeasts_s hk ek hr hR stp fr ti ts lc lci lts row bits lcv lfo hT
      obtain ⟨ca', st', g1, g2⟩ := findCarry_s hM hn hmem S hr hR al ma we ca st rb rw0
      have hca : ∀ q, q < 1024 → ca' q = if tb bits' q = true then 1 else 0 := fun q hq => table_row h3 g2 hq
      rw [if_pos hy, if_neg one_ne, ey, h1, g1, Option.bind_some, Option.bind_some]
      dsimp only
      rw [if_neg one_ne, ek, at1_s h2, Option.bind_some]
      have hOk : TabOk (nI kin) sal mo sw L 1 (nI kin) bits' := fun _ => ⟨rfl, rfl, ek ▸ h3⟩
      by_cases hz : 0 ≤ z
      · obtain ⟨i, hi31, ei⟩ := nI_of (Int32.not_lt.mpr hz)
        subst ei
        have p40 := least_40 (stp := stp) (bits := bits') (ca := ca') (arg := arg) (cm := cm) (op := op) (blo := blo) (day := day) (mem := mem) (tld := tld) (wei := wei) (rb := (fun j => if j < M then sB mem day tld blo d k N j else rb j)) (st := st') (rw0 := (fun j => if j < M then sW mem day tld blo wei d k N j else rw0 j)) (M' := nI M) (NN' := nI N) (vd := d) (vk := k) (ma := sMany mem day tld blo d k N M) (told := 0) (we := sSum mem day tld blo wei d k N M) hk hca hi31 FU 0 (by unfold FU; omega) (by omega) (by rw [show (mins stp kin bits' 0).length = 0 from rfl]; omega)
        rw [show (mins stp kin bits' 0).length = 0 from rfl, nI_0] at p40
        rw [if_pos hz, if_pos hz, p40, nI_clamp hi31]
        exact ⟨_, _, _, _, _, _, _, _, _, _, _, rfl, ⟨_, rfl⟩, hOk, h4⟩
      · rw [if_neg hz, if_neg hz]
        exact ⟨_, _, _, _, _, _, _, _, _, _, _, rfl, ⟨_, rfl⟩, hOk, h4⟩
    · obtain ⟨row', ts', bits', h1, h2, h3⟩ := tableOf_in hr hR hsin fr ti ts row bits hT
      rw [findLeasts_out hy _ _ _ _ _ _ _ _ _ _ _ _ _ _ _ _ _ _ _ _ _ _ h1, Option.bind_some, if_neg hy]
      dsimp only
      simp only [if_true]
      refine ⟨_, _, _, _, _, _, _, _, _, _, _, rfl, ⟨_, rfl⟩, fun _ => ⟨rfl, rfl, h2⟩, ?_⟩
      rcases h3 with q | ⟨q1, q2, q3⟩
      · exact Or.inl q
      · exact Or.inr ⟨q1, q2, q3.symm⟩
  · rw [findLeasts_null _ _ _ _ _ _ _ _ _ _ _ _ _ _ _ _ _ _ _ _ _ (tableOf_out hx _ _ _ _ _ _ _ _ _ _ _), inside_s x, if_neg hx]
    simp only [Option.bind_some, if_true]
    exact ⟨_, _, _, _, _, _, _, _, _, _, _, rfl, ⟨_, rfl⟩, hT, Or.inr ⟨rfl, rfl, rfl⟩⟩
end LB
