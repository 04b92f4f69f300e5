/-! power: both sides -/
def pwr (j sw tu c : Nat) : Nat := if j = 0 then sw else if j = 1 then sw / Nat.gcd sw (2 ^ (c - 1)) else if j = 2 then 2 ^ (c - 1) / Nat.gcd sw (2 ^ (c - 1)) else if j = 3 then tu / Nat.gcd tu (fct c) else fct c / Nat.gcd tu (fct c)
theorem pow_b : ∀ k, k < 10 → 0 < 2 ^ k ∧ 2 ^ k < 2 ^ 30 := by decide +kernel
theorem power_225 {M : Nat} {a b s : Nat} {ca arg cm op blo day mem tld wei rb st rw0 : Nat → Int32} {NN' vd vk al ma told we : Int32} (ha : a < 2 ^ 30) (hb : b < 2 ^ 30) (h0 : 0 < b) (hs : s < 2 ^ 30) :
    F_X12_power_225 (nI M) NN' vd vk arg cm op blo day mem tld wei (lN a) (lN b) (lN s) al ma told we rb ca st rw0 = some (lN (s / Nat.gcd a b), al, ma, told, we, rb, ca, st, rw0) := by
  have h1 := gcd_pos' (a := a) (Or.inr h0)
  have h2 := gcd_lt (a := a) (Or.inr h0) ha hb
  unfold F_X12_power_225
  rw [common_s ha hb, Option.bind_some, gnzl_n h1 (by omega), pk_lDiv (by omega) h1 (by omega)]
theorem power_164 {M j sw tu c : Nat} {ca arg cm op blo day mem tld wei rb st rw0 : Nat → Int32} {NN' vd vk al told we : Int32} (hj : j ≤ 4) (hsw : sw < 2 ^ 30) (htu : tu < 2 ^ 30) (h0 : 0 < c) (hc : c ≤ 10) :
    F_X12_power_164 (nI j) (nI M) NN' vd vk arg cm op blo day mem tld wei (lN sw) (lN tu) al (nI c) told we rb ca st rw0 = some (lN (pwr j sw tu c), al, nI c, told, we, rb, ca, st, rw0) := by
  have hp := pow_b (c - 1) (by omega)
  have hf := fct_pos c (by omega)
  have e1 : (1 : Int64) <<< ((nI c - 1).toInt64 &&& 63) = lN (2 ^ (c - 1)) := by rw [show (1 : Int32) = nI 1 from rfl, pk_sub (by omega), shl_dec _ (by omega)]
  unfold F_X12_power_164 F_X12_power_183 F_X12_power_209 pwr
  rw [e1, orders_s (by omega)]
  simp only [Option.bind_some]
  rcases (show j = 0 ∨ j = 1 ∨ j = 2 ∨ j = 3 ∨ j = 4 by omega) with e | e | e | e | e <;> subst e
  · rw [if_pos (show nI 0 = 0 from rfl), if_pos rfl]
  · rw [if_neg (show ¬ nI 1 = 0 by decide), if_neg (show ¬ (3 : Int32) ≤ nI 1 by decide), if_neg (show ¬ (3 : Int32) ≤ nI 1 by decide), if_pos (show nI 1 - nI 1 / 2 * 2 = 1 by decide), power_225 hsw hp.2 hp.1 hsw]
    rfl
  · rw [if_neg (show ¬ nI 2 = 0 by decide), if_neg (show ¬ (3 : Int32) ≤ nI 2 by decide), if_neg (show ¬ (3 : Int32) ≤ nI 2 by decide), if_neg (show ¬ nI 2 - nI 2 / 2 * 2 = 1 by decide), power_225 hsw hp.2 hp.1 hp.2]
    rfl
  · rw [if_neg (show ¬ nI 3 = 0 by decide), if_pos (show (3 : Int32) ≤ nI 3 by decide), if_pos (show (3 : Int32) ≤ nI 3 by decide), if_pos (show nI 3 - nI 3 / 2 * 2 = 1 by decide), power_225 htu hf.2 hf.1 htu]
    rfl
  · rw [if_neg (show ¬ nI 4 = 0 by decide), if_pos (show (3 : Int32) ≤ nI 4 by decide), if_pos (show (3 : Int32) ≤ nI 4 by decide), if_neg (show ¬ nI 4 - nI 4 / 2 * 2 = 1 by decide), power_225 htu hf.2 hf.1 hf.2]
    rfl
section PB
variable {mem day tld blo wei : Nat → Int32} {d k : Int32} {N M : Nat}
theorem power_both (hM : M ≤ 10) (hn : N ≤ 200) (hmem : ∀ i, i < N → ∃ mi, mi < M ∧ mem i = nI mi) {sin sal : Int32} {mo sw : Nat → Int32} (S : Seated mem day tld blo wei d k N sin sal mo sw) {L : List (Nat × Nat)} {codes fr ti ts : Int32} {code bits cm op arg : Nat → Int32} {x y z : Int32} (R : ∀ r, r < 4 → x = nI r → RuleIs L codes code r cm op arg) (hT : TabOk sin sal mo sw L fr ti bits) (al ma we told : Int32) (row ca st rb rw0 : Nat → Int32) :
    ∃ a row' fr' ti' ts' bits', F_X11_power x y z (nI M) codes code row fr ti ts bits sal sin mo sw = some (a, row', fr', ti', ts', bits') ∧ (∃ o2, F_X12_power x y z al ma (nI M) (nI N) told d k we arg rb ca cm op blo day mem tld wei st rw0 = some (a, o2)) ∧ TabOk sin sal mo sw L fr' ti' bits' ∧ (ts' = 0 ∨ (ts' = ts ∧ bits' = bits ∧ fr' = fr)) := by
  have hsin : ∀ i, 10 ≤ i → i < 32 → bt sin i = false := by rw [S.1]; exact sAll_hi (Nat.le_refl _)
  unfold F_X11_power F_X12_power
  rw [isRule_s, isMember_s]
  by_cases hx : 0 ≤ x ∧ x < 4
  · obtain ⟨r, hr31, er⟩ := nI_of (Int32.not_lt.mpr hx.1)
    subst er
    have hr : r < 4 := (nI_ltI (b := 4) hr31 (by omega)).mp hx.2
    have hR := R r hr rfl
    obtain ⟨row', ts', bits', h1, h2, h3⟩ := tableOf_in hr hR hsin fr ti ts row bits hT
    have hOk : TabOk sin sal mo sw L 1 sin bits' := fun _ => ⟨rfl, rfl, h2⟩
    have hts : ts' = 0 ∨ (ts' = ts ∧ bits' = bits ∧ (1 : Int32) = fr) := by
      rcases h3 with q | ⟨q1, q2, q3⟩
      · exact Or.inl q
      · exact Or.inr ⟨q1, q2, q3.symm⟩
    obtain ⟨ca', st', g1, g2⟩ := findCarry_s hM hn hmem S hr hR al ma we ca st rb rw0
    have hca : ∀ q, q < 1024 → ca' q = if tb bits' q = true then 1 else 0 := fun q hq => table_row h2 g2 hq
    rw [h1, inside_s (nI r), inside_s y, isIn_s]
    simp only [Option.bind_some, if_pos hx, if_neg one_ne]
    by_cases hy : 0 ≤ y ∧ y < nI M
    · simp only [if_pos hy, if_neg one_ne]
      obtain ⟨m, hm31, em⟩ := nI_of (Int32.not_lt.mpr hy.1)
      subst em
      have hm : m < M := (nI_ltI hm31 (by omega)).mp hy.2
      rw [has_s _ (show m < 32 by omega)]
      simp only [Option.bind_some]
      by_cases hz : 0 ≤ z ∧ z ≤ 4
      · simp only [if_pos hz, if_neg one_ne]
        rw [g1]
        simp only [Option.bind_some]
        rw [isOf_s _ (show m < 32 by omega)]
        simp only [Option.bind_some]
        by_cases b1 : bt sin m = true
        · simp only [if_pos b1, if_neg one_ne]
          obtain ⟨j, hj, ej⟩ := nI_of2 (x := z) (M := 4) (n := 4) (by decide) (Int32.not_lt.mpr hz.1) hz.2
          subst ej
          obtain ⟨kin, hk, ek⟩ := small10 hsin
          have eMany : sMany mem day tld blo d k N M = nI (hN kin 10) := by
            have e1 := sMany_M (day := day) (tld := tld) (blo := blo) (d := d) (k := k) hmem (10 - M) (by omega)
            rw [show M + (10 - M) = 10 by omega] at e1
            rw [← e1, sMany_h 10 (by omega), ← S.1, ek, hSum_N kin 10 (by omega)]
          have h0 : 0 < hN kin 10 := by
            have hb1 : kin.testBit m = true := by rw [← bt_nI (show m < 32 by omega), ← ek]; exact b1
            have := hN_more (a := 0) (b := kin) (m := m) (by simp) hb1 10 (by omega) (fun i _ hi => by simp at hi)
            omega
          rw [eMany]
          rw [ek] at b1 ⊢
          have hle := hN_le kin 10
          have hsw := swN_le (sin := nI kin) (bits := bits') (m := m) 1024
          have htu := tuN_le (bits := bits') hk (show m < 10 by omega) b1 1024 (Nat.le_refl _)
          have p65 := power_65 (M := M) (bits := bits') (ca := ca') (arg := arg) (cm := cm) (op := op) (blo := blo) (day := day) (mem := mem) (tld := tld) (wei := wei) (rb := (fun j => if j < M then sB mem day tld blo d k N j else rb j)) (st := st') (rw0 := (fun j => if j < M then sW mem day tld blo wei d k N j else rw0 j)) (x := nI j) (NN' := nI N) (vd := d) (vk := k) (told := 0) (we := sSum mem day tld blo wei d k N M) hk (show m < 10 by omega) b1 hca FU 0 (by unfold FU; omega) (by omega)
          rw [nI_0, show swN (nI kin) bits' m 0 = 0 from rfl, show tuN (nI kin) bits' m (hN kin 10) 0 = 0 from rfl] at p65
          rw [show (0 : Int64) = lN 0 from rfl, p65, power_164 hj (by omega) (by omega) h0 hle]
          rw [swings_s hk (show m < 10 by omega), turns_s hk (show m < 10 by omega) b1 h0, setsWithoutOne_s hk h0, orders9_s hk]
          have hp := pow_b (hN kin 10 - 1) (by omega)
          have hf := fct_pos (hN kin 10) (by omega)
          simp only [Option.bind_some]
          generalize swN (nI kin) bits' m 1024 = sw1 at hsw ⊢
          generalize tuN (nI kin) bits' m (hN kin 10) 1024 = tu1 at htu ⊢
          rw [reduced_s (by omega) hp.2 (Or.inr hp.1), reduced_s hp.2 (by omega) (Or.inl hp.1), reduced_s (by omega) hf.2 (Or.inr hf.1), reduced_s hf.2 (by omega) (Or.inl hf.1)]
          simp only [Option.bind_some]
          rw [Nat.gcd_comm (2 ^ (hN kin 10 - 1)) sw1, Nat.gcd_comm (fct (hN kin 10)) tu1]
          have hOk' : TabOk (nI kin) sal mo sw L 1 (nI kin) bits' := ek ▸ hOk
          rcases (show j = 0 ∨ j = 1 ∨ j = 2 ∨ j = 3 ∨ j = 4 by omega) with e | e | e | e | e <;> subst e <;> unfold pwr
          · exact ⟨_, _, _, _, _, _, rfl, ⟨_, rfl⟩, hOk', hts⟩
          · exact ⟨_, _, _, _, _, _, rfl, ⟨_, rfl⟩, hOk', hts⟩
          · exact ⟨_, _, _, _, _, _, rfl, ⟨_, rfl⟩, hOk', hts⟩
          · exact ⟨_, _, _, _, _, _, rfl, ⟨_, rfl⟩, hOk', hts⟩
          · exact ⟨_, _, _, _, _, _, rfl, ⟨_, rfl⟩, hOk', hts⟩
        · simp only [if_neg b1, if_true]
          exact ⟨_, _, _, _, _, _, rfl, ⟨_, rfl⟩, hOk, hts⟩
      · have hne : ∀ j : Nat, j ≤ 4 → ¬ z = nI j := by
          intro j hj e
          apply hz
          rw [e]
          exact ⟨nI_pos' (by omega), nI_le (b := 4) hj (by omega)⟩
        simp only [if_neg hz, if_true, if_neg (show ¬ z = 0 from hne 0 (by omega)), if_neg (show ¬ z = 1 from hne 1 (by omega)), if_neg (show ¬ z = 2 from hne 2 (by omega)), if_neg (show ¬ z = 3 from hne 3 (by omega)), if_neg (show ¬ z = 4 from hne 4 (by omega))]
        by_cases b1 : bt sin m = true
        · simp only [if_pos b1, if_neg one_ne]
          exact ⟨_, _, _, _, _, _, rfl, ⟨_, rfl⟩, hOk, hts⟩
        · simp only [if_neg b1, if_true]
          exact ⟨_, _, _, _, _, _, rfl, ⟨_, rfl⟩, hOk, hts⟩
    · simp only [if_neg hy, if_true]
      exact ⟨_, _, _, _, _, _, rfl, ⟨_, rfl⟩, hOk, hts⟩
  · rw [tableOf_out hx, inside_s x, if_neg hx]
    simp only [Option.bind_some, if_true]
    exact ⟨_, _, _, _, _, _, rfl, ⟨_, rfl⟩, hT, Or.inr ⟨rfl, rfl, rfl⟩⟩
end PB
