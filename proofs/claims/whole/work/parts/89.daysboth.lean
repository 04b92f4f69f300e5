/-! days: both sides -/
theorem pow_dec : ∀ m, m < 11 → (1 : Int32) <<< (nI m &&& 31) = nI (2 ^ m) ∧ nI (2 ^ m) - 1 = nI (2 ^ m - 1) := by decide +kernel
theorem pow_lt' : ∀ m, m < 11 → 0 < 2 ^ m ∧ 2 ^ m ≤ 1024 := by decide +kernel
theorem mask_in {m : Nat} (hm : m ≤ 10) (x : Int32) : (x &&& (nI (2 ^ m - 1) ^^^ (-1))) = 0 ↔ 0 ≤ x ∧ x < nI (2 ^ m) := by
  have hp := pow_lt' m (by omega)
  have hb : ∀ i, i < 32 → bt (nI (2 ^ m - 1)) i = decide (i < m) := fun i hi => by rw [bt_nI hi, Nat.testBit_two_pow_sub_one]
  rw [win_iff]
  constructor
  · intro h
    have e : x = nI (x.toBitVec.toNat % 2 ^ m) := by
      apply b_ext
      intro i hi
      rw [bt_nI hi, Nat.testBit_mod_two_pow]
      cases hx : bt x i
      · rw [show x.toBitVec.toNat.testBit i = bt x i from rfl, hx, Bool.and_false]
      · have := h i hi hx
        rw [hb i hi] at this
        rw [show x.toBitVec.toNat.testBit i = bt x i from rfl, hx, this]; rfl
    have hlt := Nat.mod_lt x.toBitVec.toNat hp.1
    rw [e]
    exact ⟨nI_pos' (by omega), nI_lt hlt (by omega)⟩
  · rintro ⟨h1, h2⟩ i hi hx
    obtain ⟨q, hq, e⟩ := nI_of (Int32.not_lt.mpr h1)
    subst e
    have hq2 : q < 2 ^ m := (nI_ltI hq (by omega)).mp h2
    rw [bt_nI hi] at hx
    rw [hb i hi, decide_eq_true_iff]
    rcases Nat.lt_or_ge i m with c | c
    · exact c
    · rw [Nat.testBit_lt_two_pow (Nat.lt_of_lt_of_le hq2 (Nat.pow_le_pow_right (by omega) c))] at hx
      cases hx
section DB
variable {mem day tld blo wei : Nat → Int32} {N M : Nat}
theorem days_both (hM : M ≤ 10) (hn : N ≤ 200) (hmem : ∀ i, i < N → ∃ mi, mi < M ∧ mem i = nI mi) (hblo : ∀ i, i < N → blo i = -1 ∨ ∃ b, b < 6 ∧ blo i = nI b) (hday : ∀ i, i < N → ∃ e, e < 1000 ∧ day i = nI e) {L : List (Nat × Nat)} {codes : Int32} {code cm op arg : Nat → Int32} {x1 x2 x3 x4 x5 : Int32} (R : ∀ r, r < 4 → x1 = nI r → RuleIs L codes code r cm op arg) (al ma we told oal oin : Int32) (st rb rw0 la mo sw cst : Nat → Int32) :
    ∃ a o1, F_X11_days x1 x2 x3 x4 x5 (nI M) (nI N) blo day la mem tld wei oal oin mo sw codes code cst = some (a, o1) ∧ ∃ o2, F_X12_days x1 x2 x3 x4 x5 al ma (nI M) (nI N) told we arg rb cm op blo day mem tld wei st rw0 = some (a, o2) := by
  have hp := pow_dec M (by omega)
  unfold F_X11_days F_X12_days
  rw [isRule_s, inside_s, isWithin_s, hp.1, hp.2, isDay_s, isDay_s, isIn_s, inside_day, isDay_s]
  simp only [Option.bind_some, mask_in hM]
  by_cases hx : 0 ≤ x1 ∧ x1 < 4
  rotate_left
  · simp only [if_neg hx, if_true]
    exact ⟨_, _, rfl, _, rfl⟩
  simp only [if_pos hx, if_neg one_ne]
  by_cases h2 : 0 ≤ x2 ∧ x2 < nI (2 ^ M)
  rotate_left
  · simp only [if_neg h2, if_true]
    by_cases c : x2 < 0
    · rw [if_pos c]; exact ⟨_, _, rfl, _, rfl⟩
    · rw [if_neg c, if_pos (Int32.not_lt.mp (fun z => h2 ⟨Int32.not_lt.mp c, z⟩))]; exact ⟨_, _, rfl, _, rfl⟩
  simp only [if_pos h2, if_neg one_ne, if_neg (Int32.not_lt.mpr h2.1), if_neg (Int32.not_le.mpr h2.2)]
  by_cases h3 : 0 ≤ x3
  rotate_left
  · simp only [if_pos (Int32.not_le.mp h3), if_neg (show ¬ (0 ≤ x3 ∧ x3 ≤ 999) from fun z => h3 z.1), if_true]
    exact ⟨_, _, rfl, _, rfl⟩
  simp only [if_neg (Int32.not_lt.mpr h3)]
  by_cases h4 : x3 ≤ x4
  rotate_left
  · simp only [if_pos (Int32.not_le.mp h4), if_neg (show ¬ (x3 ≤ x4 ∧ x4 ≤ 999) from fun z => h4 z.1), if_true]
    by_cases c : 0 ≤ x3 ∧ x3 ≤ 999
    · simp only [if_pos c, if_neg one_ne]; exact ⟨_, _, rfl, _, rfl⟩
    · simp only [if_neg c, if_true]; exact ⟨_, _, rfl, _, rfl⟩
  simp only [if_neg (Int32.not_lt.mpr h4)]
  by_cases h5 : x4 ≤ 999
  rotate_left
  · have h5' : (1000 : Int32) ≤ x4 := by
      rw [Int32.le_iff_toInt_le] at h5 ⊢
      have e1 : (999 : Int32).toInt = 999 := by decide
      have e2 : (1000 : Int32).toInt = 1000 := by decide
      omega
    simp only [if_pos h5', if_neg (show ¬ (x3 ≤ x4 ∧ x4 ≤ 999) from fun z => h5 z.2), if_true]
    by_cases c : 0 ≤ x3 ∧ x3 ≤ 999
    · simp only [if_pos c, if_neg one_ne]; exact ⟨_, _, rfl, _, rfl⟩
    · simp only [if_neg c, if_true]; exact ⟨_, _, rfl, _, rfl⟩
  have h5' : ¬ (1000 : Int32) ≤ x4 := by
    rw [Int32.le_iff_toInt_le] at h5 ⊢
    have e1 : (999 : Int32).toInt = 999 := by decide
    have e2 : (1000 : Int32).toInt = 1000 := by decide
    omega
  have h39 : x3 ≤ 999 := Int32.le_trans h4 h5
  simp only [if_neg h5', if_pos (show 0 ≤ x3 ∧ x3 ≤ 999 from ⟨h3, h39⟩), if_pos (show x3 ≤ x4 ∧ x4 ≤ 999 from ⟨h4, h5⟩), if_neg one_ne]
  by_cases h6 : 0 ≤ x5 ∧ x5 ≤ 999
  rotate_left
  · simp only [if_neg h6, if_true]
    exact ⟨_, _, rfl, _, rfl⟩
  simp only [if_pos h6, if_neg one_ne]
  obtain ⟨r, hr31, er⟩ := nI_of (Int32.not_lt.mpr hx.1)
  subst er
  have hr : r < 4 := (nI_ltI (b := 4) hr31 (by omega)).mp hx.2
  have hR := R r hr rfl
  obtain ⟨a, ha, ea⟩ := nI_of2 (x := x3) (M := 999) (n := 999) (by decide) (Int32.not_lt.mpr h3) h39
  obtain ⟨b, hb, eb⟩ := nI_of2 (x := x4) (M := 999) (n := 999) (by decide) (Int32.not_lt.mpr (Int32.le_trans h3 h4)) h5
  subst ea; subst eb
  have hab : a ≤ b := (nI_leI (by omega) (by omega)).mp h4
  have hmem10 : ∀ i, i < N → ∃ mi, mi < 10 ∧ mem i = nI mi := fun i hi => by
    obtain ⟨mi, q1, q2⟩ := hmem i hi
    exact ⟨mi, by omega, q2⟩
  have haf := aft_le (day := day) (a + 0) N
  obtain ⟨o1, c1⟩ := cdays_63 (M := M) (L := L) (set := x2) (kk := x5) (M' := nI M) (a := a) (b := b) hM hn hmem10 hblo hday hr hR (by omega) FU 0 0 la mo sw cst oal oin (by unfold FU; omega) (by omega) (Or.inl (by omega)) (by omega)
  obtain ⟨o2, c2⟩ := mdays_65 (M := M) (L := L) (set := x2) (kk := x5) (told := 0) (a := a) (b := b) hM hn hmem hr hR (by omega) (by omega) FU 0 al ma we rb st rw0 (by unfold FU; omega) (by omega)
  rw [Nat.add_zero, show cnd mem day tld blo wei x5 N L x2 a 0 = 0 from rfl, nI_0] at c1 c2
  rw [c1, c2]
  exact ⟨_, _, rfl, _, rfl⟩
end DB
