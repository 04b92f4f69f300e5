/-! odd -/
theorem oddSet_s {sin sal : Int32} {mo sw : Nat → Int32} {L : List (Nat × Nat)} {bits : Nat → Int32} (hsin : ∀ i, 10 ≤ i → i < 32 → bt sin i = false) (hT : Truth sin sal mo sw L bits 1024) : F_X9_oddSet sin bits = some (os sin bits 1024 0) := by
  obtain ⟨kin, hk, e⟩ := small10 hsin
  subst e
  unfold F_X9_oddSet
  have h := oddSet_2 hk (fun j hj c => ((hT j hj).mp c).2.1) FU 0 (by unfold FU; omega) (by omega)
  rw [nI_0] at h
  exact h
def ods (sin : Int32) (bits : Nat → Int32) : Int32 := os sin bits 1024 0
theorem oddSet_d {sin sal : Int32} {mo sw : Nat → Int32} {L : List (Nat × Nat)} {bits : Nat → Int32} (hsin : ∀ i, 10 ≤ i → i < 32 → bt sin i = false) (hT : Truth sin sal mo sw L bits 1024) : F_X9_oddSet sin bits = some (ods sin bits) := oddSet_s hsin hT
theorem ods_rng {sin : Int32} {bits : Nat → Int32} : ods sin bits = -1 ∨ ∃ j, j < 1024 ∧ ods sin bits = nI j := by
  unfold ods
  rcases os_rng (sin := sin) (bits := bits) 1024 0 with h | ⟨j, _, h2, h3⟩
  · exact Or.inl h
  · exact Or.inr ⟨j, by omega, h3⟩
theorem odd_32d {M : Nat} {bits ca arg cm op blo day mem tld wei rb st rw0 : Nat → Int32} {sin x NN' vd vk ma told we : Int32} (hM : M ≤ 10) (hca : ∀ z, z < 1024 → ca z = if tb bits z = true then 1 else 0) (hs : ∀ i, M ≤ i → i < 32 → bt sin i = false) :
    F_X12_odd_32 x (nI M) NN' vd vk arg cm op blo day mem tld wei FU 0 sin ma told we rb ca st rw0 =
      some (if ods sin bits = -1 then -1 else if x = 0 then ods sin bits else spl sin bits (ods sin bits).toNatClampNeg 10 0, sin, ma, told, we, rb, ca, st, rw0) := by
  have h := odd_32 (bits := bits) (ca := ca) (arg := arg) (cm := cm) (op := op) (blo := blo) (day := day) (mem := mem) (tld := tld) (wei := wei) (rb := rb) (st := st) (rw0 := rw0) (sin := sin) (x := x) (NN' := NN') (vd := vd) (vk := vk) (ma := ma) (told := told) (we := we) hM hca hs FU 0 (by unfold FU; omega) (by omega)
  rw [nI_0, Nat.sub_zero] at h
  unfold ods
  exact h
section OB
variable {mem day tld blo wei : Nat → Int32} {d k : Int32} {N M : Nat}
theorem odd_both (hM : M ≤ 10) (hn : N ≤ 200) (hmem : ∀ i, i < N → ∃ mi, mi < M ∧ mem i = nI mi) {sin sal : Int32} {mo sw : Nat → Int32} (S : Seated mem day tld blo wei d k N sin sal mo sw) {L : List (Nat × Nat)} {codes fr ti ts : Int32} {code bits cm op arg : Nat → Int32} {x y : Int32} (R : ∀ r, r < 4 → x = nI r → RuleIs L codes code r cm op arg) (hT : TabOk sin sal mo sw L fr ti bits) (al ma we told : Int32) (row ca st rb rw0 : Nat → Int32) :
    ∃ a row' fr' ti' ts' bits', F_X11_odd x y codes code row fr ti ts bits sal sin mo sw = some (a, row', fr', ti', ts', bits') ∧ (∃ o2, F_X12_odd x y al ma (nI M) (nI N) told d k we arg rb ca cm op blo day mem tld wei st rw0 = some (a, o2)) ∧ TabOk sin sal mo sw L fr' ti' bits' ∧ (ts' = 0 ∨ (ts' = ts ∧ bits' = bits ∧ fr' = fr)) := by
  have hsin : ∀ i, 10 ≤ i → i < 32 → bt sin i = false := by rw [S.1]; exact sAll_hi (Nat.le_refl _)
  have hsM : ∀ i, M ≤ i → i < 32 → bt sin i = false := by
    intro i a b
    rw [S.1, sAll10 hM hmem, sAll_bt M (by omega) i b, decide_eq_false (show ¬ i < M by omega), Bool.false_and]
  unfold F_X11_odd F_X12_odd
  rw [isRule_s]
  by_cases hx : 0 ≤ x ∧ x < 4
  · obtain ⟨r, hr31, er⟩ := nI_of (Int32.not_lt.mpr hx.1)
    subst er
    have hr : r < 4 := (nI_ltI (b := 4) hr31 (by omega)).mp hx.2
    have hR := R r hr rfl
    obtain ⟨row', ts', bits', h1, h2, h3⟩ := tableOf_in hr hR hsin fr ti ts row bits hT
    have hOk : TabOk sin sal mo sw L 1 sin bits' := fun _ => ⟨rfl, rfl, h2⟩
    have hts : ts' = 0 ∨ (ts' = ts ∧ bits' = bits ∧ (1 : Int32) = fr) := by
      rcases h3 with q | ⟨q1, q2, q3⟩
      · exact Or.inl q
      · exact Or.inr ⟨q1, q2, q3.symm⟩
    obtain ⟨ca', st', g1, g2⟩ := findCarry_s hM hn hmem S hr hR al ma we ca st rb rw0
    have hca : ∀ q, q < 1024 → ca' q = if tb bits' q = true then 1 else 0 := fun q hq => table_row h2 g2 hq
    rw [h1, inside_s (nI r), inside_in (a := 1) (by decide) y, isIn_s]
    simp only [Option.bind_some, if_pos hx, if_neg one_ne]
    by_cases hy : 0 ≤ y ∧ y ≤ 1
    · simp only [if_pos hy, if_neg one_ne]
      rw [oddSet_d hsin h2, g1, Option.bind_some, Option.bind_some, odd_32d (bits := bits') hM hca hsM]
      have hrng := ods_rng (sin := sin) (bits := bits')
      generalize ods sin bits' = w at hrng ⊢
      by_cases c : w = -1
      · simp only [if_pos c]
        exact ⟨_, _, _, _, _, _, rfl, ⟨_, rfl⟩, hOk, hts⟩
      · simp only [if_neg c]
        obtain ⟨j, j2, ej⟩ := hrng.resolve_left c
        by_cases c2 : y = 0
        · simp only [if_pos c2]
          exact ⟨_, _, _, _, _, _, rfl, ⟨_, rfl⟩, hOk, hts⟩
        · simp only [if_neg c2]
          rw [ej, nI_clamp (by omega), spoiler_s j2]
          simp only [Option.bind_some]
          exact ⟨_, _, _, _, _, _, rfl, ⟨_, rfl⟩, hOk, hts⟩
    · simp only [if_neg hy, if_true]
      exact ⟨_, _, _, _, _, _, rfl, ⟨_, rfl⟩, hOk, hts⟩
  · rw [tableOf_out hx, inside_s x, if_neg hx]
    simp only [Option.bind_some, if_true]
    exact ⟨_, _, _, _, _, _, rfl, ⟨_, rfl⟩, hT, Or.inr ⟨rfl, rfl, rfl⟩⟩
end OB
