/-! tableOf, worth -/
/-- the class's table, if it calls itself fresh, is the truth table of those in -/
def TabOk (sin sal : Int32) (mo sw : Nat → Int32) (L : List (Nat × Nat)) (fr ti : Int32) (bits : Nat → Int32) : Prop := ¬ fr = 0 → fr = 1 ∧ ti = sin ∧ Truth sin sal mo sw L bits 1024
theorem tableOf_in {sin sal : Int32} {mo sw code cm op arg : Nat → Int32} {L : List (Nat × Nat)} {codes : Int32} {r : Nat} (hr : r < 4) (R : RuleIs L codes code r cm op arg) (hsin : ∀ i, 10 ≤ i → i < 32 → bt sin i = false) (fr ti ts : Int32) (row bits : Nat → Int32) (hT : TabOk sin sal mo sw L fr ti bits) :
    ∃ row' ts' bits', F_X11_tableOf (nI r) codes code row fr ti ts bits sal sin mo sw = some (1, row', 1, sin, ts', bits') ∧ Truth sin sal mo sw L bits' 1024 ∧ (ts' = 0 ∨ (ts' = ts ∧ bits' = bits ∧ fr = 1)) := by
  obtain ⟨row', ts', bits', h1, h2, h3⟩ := tabulate_s (sal := sal) (mo := mo) (sw := sw) R.1 hsin R.2.2.1 fr ti ts row bits hT
  refine ⟨row', ts', bits', ?_, h2, h3⟩
  unfold F_X11_tableOf
  rw [show (4 : Int32) = nI 4 from rfl, inside_n (by omega) (by omega), if_pos hr, R.2.1, h1]
  simp only [Option.bind_some, if_neg one_ne, gin_n hr (show 4 < 2 ^ 31 by omega)]
theorem tableOf_out {x : Int32} (hx : ¬ (0 ≤ x ∧ x < 4)) (sin sal codes fr ti ts : Int32) (mo sw code row bits : Nat → Int32) : F_X11_tableOf x codes code row fr ti ts bits sal sin mo sw = some (0, row, fr, ti, ts, bits) := by
  unfold F_X11_tableOf
  rw [inside_s, if_neg hx, Option.bind_some, if_pos rfl]
section WB
variable {mem day tld blo wei : Nat → Int32} {d k : Int32} {N M : Nat}
theorem worth_both (hM : M ≤ 10) (hn : N ≤ 200) (hmem : ∀ i, i < N → ∃ mi, mi < M ∧ mem i = nI mi) {sin sal : Int32} {mo sw : Nat → Int32} (S : Seated mem day tld blo wei d k N sin sal mo sw) {L : List (Nat × Nat)} {codes fr ti ts : Int32} {code bits cm op arg : Nat → Int32} {x y z : Int32} (R : ∀ r, r < 4 → x = nI r → RuleIs L codes code r cm op arg) (hT : TabOk sin sal mo sw L fr ti bits) (al ma we told : Int32) (row ca st rb rw0 : Nat → Int32) :
    ∃ a row' fr' ti' ts' bits', F_X11_worth x y z (nI M) codes code row fr ti ts bits sal sin mo sw = some (a, row', fr', ti', ts', bits') ∧ (∃ o2, F_X12_worth x y z al ma (nI M) (nI N) told d k we arg rb ca cm op blo day mem tld wei st rw0 = some (a, o2)) ∧ TabOk sin sal mo sw L fr' ti' bits' ∧ (ts' = 0 ∨ (ts' = ts ∧ bits' = bits ∧ fr' = fr)) := by
  have hsin : ∀ i, 10 ≤ i → i < 32 → bt sin i = false := by rw [S.1]; exact sAll_hi (Nat.le_refl _)
  unfold F_X11_worth F_X12_worth
  rw [isRule_s, isMember_s, isMember_s]
  by_cases hx : 0 ≤ x ∧ x < 4
  · obtain ⟨r, hr31, er⟩ := nI_of (Int32.not_lt.mpr hx.1)
    subst er
    have hr : r < 4 := (nI_ltI (b := 4) hr31 (by omega)).mp hx.2
    have hR := R r hr rfl
    obtain ⟨row', ts', bits', h1, h2, h3⟩ := tableOf_in hr hR hsin fr ti ts row bits hT
    have hOk : TabOk sin sal mo sw L 1 sin bits' := fun _ => ⟨rfl, rfl, h2⟩
    have hts : ts' = 0 ∨ (ts' = ts ∧ bits' = bits ∧ (1 : Int32) = fr) := by
      rcases h3 with q | ⟨q1, q2, q3⟩
      · exact Or.inl q
      · exact Or.inr ⟨q1, q2, q3.symm⟩
    obtain ⟨ca', st', g1, g2⟩ := findCarry_s hM hn hmem S hr hR al ma we ca st rb rw0
    rw [h1, inside_s (nI r), inside_s y, inside_s z]
    simp only [Option.bind_some, if_pos hx, if_neg one_ne]
    by_cases hy : 0 ≤ y ∧ y < nI M
    · by_cases hz : 0 ≤ z ∧ z < nI M
      · simp only [if_pos hy, if_pos hz, if_neg one_ne]
        by_cases hyz : y = z
        · simp only [if_pos hyz]
          exact ⟨_, _, _, _, _, _, rfl, ⟨_, rfl⟩, hOk, hts⟩
        · simp only [if_neg hyz]
          obtain ⟨i, hi31, ei⟩ := nI_of (Int32.not_lt.mpr hy.1)
          obtain ⟨j, hj31, ej⟩ := nI_of (Int32.not_lt.mpr hz.1)
          subst ei; subst ej
          have hi : i < M := (nI_ltI hi31 (by omega)).mp hy.2
          have hj : j < M := (nI_ltI hj31 (by omega)).mp hz.2
          rw [g1]
          simp only [Option.bind_some, has_s _ (show i < 32 by omega), has_s _ (show j < 32 by omega), isOf_s _ (show i < 32 by omega), isOf_s _ (show j < 32 by omega)]
          by_cases b1 : bt sin i = true
          · simp only [if_pos b1, if_neg one_ne]
            by_cases b2 : bt sin j = true
            · simp only [if_pos b2, if_neg one_ne]
              have hca : ∀ q, q < 1024 → ca' q = if tb bits' q = true then 1 else 0 := fun q hq => table_row h2 g2 hq
              obtain ⟨v, p1, p2⟩ := worth_same (i := i) (j := j) (by omega) (by omega) hsin hca
              obtain ⟨w, q1, q2⟩ := worth_same (i := j) (j := i) (by omega) (by omega) hsin hca
              unfold F_X11_worth_84 F_X12_worth_81
              rw [p1, p2, q1, q2]
              simp only [Option.bind_some]
              by_cases c1 : v = 0
              · by_cases c2 : w = 0
                · simp only [if_pos c1, if_pos c2]
                  exact ⟨_, _, _, _, _, _, rfl, ⟨_, rfl⟩, hOk, hts⟩
                · simp only [if_pos c1, if_neg c2]
                  exact ⟨_, _, _, _, _, _, rfl, ⟨_, rfl⟩, hOk, hts⟩
              · by_cases c2 : w = 0
                · simp only [if_neg c1, if_pos c2]
                  exact ⟨_, _, _, _, _, _, rfl, ⟨_, rfl⟩, hOk, hts⟩
                · simp only [if_neg c1, if_neg c2]
                  exact ⟨_, _, _, _, _, _, rfl, ⟨_, rfl⟩, hOk, hts⟩
            · simp only [if_neg b2, if_true]
              exact ⟨_, _, _, _, _, _, rfl, ⟨_, rfl⟩, hOk, hts⟩
          · simp only [if_neg b1, if_true]
            exact ⟨_, _, _, _, _, _, rfl, ⟨_, rfl⟩, hOk, hts⟩
      · simp only [if_pos hy, if_neg hz, if_neg one_ne, if_true]
        by_cases hyz : y = z
        · simp only [if_pos hyz]
          exact ⟨_, _, _, _, _, _, rfl, ⟨_, rfl⟩, hOk, hts⟩
        · simp only [if_neg hyz]
          exact ⟨_, _, _, _, _, _, rfl, ⟨_, rfl⟩, hOk, hts⟩
    · simp only [if_neg hy, if_true]
      by_cases hyz : y = z
      · simp only [if_pos hyz]
        exact ⟨_, _, _, _, _, _, rfl, ⟨_, rfl⟩, hOk, hts⟩
      · simp only [if_neg hyz]
        exact ⟨_, _, _, _, _, _, rfl, ⟨_, rfl⟩, hOk, hts⟩
  · rw [tableOf_out hx, inside_s x, if_neg hx]
    simp only [Option.bind_some, if_true]
    exact ⟨_, _, _, _, _, _, rfl, ⟨_, rfl⟩, hT, Or.inr ⟨rfl, rfl, rfl⟩⟩
end WB
