/-! SMALL CALLS: both sides -/
theorem lt_le {x a b : Int32} (h : b.toInt = a.toInt + 1) : x < b ↔ x ≤ a := by
  rw [Int32.lt_iff_toInt_lt, Int32.le_iff_toInt_le]; omega
theorem isIn_s (x a b : Int32) : F_X12_isIn x a b = some (if a ≤ x ∧ x ≤ b then 1 else 0) := by
  unfold F_X12_isIn
  by_cases h1 : x < a
  · rw [if_pos h1, if_neg (fun h => absurd h1 (Int32.not_lt.mpr h.1))]
  · by_cases h2 : b < x
    · rw [if_neg h1, if_pos h2, if_neg (fun h => absurd h2 (Int32.not_lt.mpr h.2))]
    · rw [if_neg h1, if_neg h2, if_pos ⟨Int32.not_lt.mp h1, Int32.not_lt.mp h2⟩]
theorem isMember_s (x n : Int32) : F_X12_isMember x n = F_X11_inside x n := rfl
theorem ite01 (P : Prop) [Decidable P] : (if P then (1 : Int32) else 0) = 0 ∨ (if P then (1 : Int32) else 0) = 1 := by by_cases h : P <;> simp [h]
theorem ite_eq0 (P : Prop) [Decidable P] : ((if P then (1 : Int32) else 0) = 0) = ¬ P := by by_cases h : P <;> simp [h]
theorem isDay_s (x : Int32) : F_X12_isDay x = some (if 0 ≤ x ∧ x ≤ 999 then 1 else 0) := by
  unfold F_X12_isDay
  rw [isIn_s, Option.bind_some, gb, if_pos (ite01 _)]
/-- inside as isIn says it -/
theorem inside_in {a b : Int32} (h : b.toInt = a.toInt + 1) (x : Int32) : F_X11_inside x b = F_X12_isIn x 0 a := by
  rw [inside_s, isIn_s]
  simp only [lt_le h]
theorem inside_day (x : Int32) : F_X11_inside x 1000 = F_X12_isDay x := by
  rw [inside_in (a := 999) (by decide), isIn_s, isDay_s]
theorem member_both {M : Nat} (hM : M ≤ 10) (told : Int32) : F_X11_member (nI M) = some (if M = 10 then -1 else nI M, if M = 10 then nI M else nI (M + 1)) ∧ F_X12_member (nI M) told = some (if M = 10 then -1 else nI M, if M = 10 then nI M else nI (M + 1), 0) := by
  unfold F_X11_member F_X12_member
  by_cases h : M = 10
  · subst h
    exact ⟨by decide, by decide⟩
  · have e : nI M + 1 - 1 = nI M := by rw [nI_1, nI_pred]
    rw [if_pos (show nI M < (10 : Int32) from nI_lt (b := 10) (by omega) (by omega)), if_neg (show ¬ nI M = (10 : Int32) from fun q => h ((nI_eq (b := 10) (by omega) (by omega)).mp q)), e, nI_1, if_neg h, if_neg h]
    exact ⟨rfl, rfl⟩
theorem end_both (x len told : Int32) : ∃ o, F_X11_end x len = some o ∧ F_X12_end x len told = some (o.1, o.2, 0) ∧ (o = (0, len) ∨ (0 ≤ x ∧ x ≤ len ∧ o = (1, x))) := by
  unfold F_X11_end F_X12_end
  rw [isIn_s, Option.bind_some]
  by_cases h1 : x < 0
  · refine ⟨(0, len), by rw [if_pos h1], ?_, Or.inl rfl⟩
    rw [if_neg (show ¬ (0 ≤ x ∧ x ≤ len) from fun h => absurd h1 (Int32.not_lt.mpr h.1)), if_pos rfl]
  · by_cases h2 : x ≤ len
    · refine ⟨(1, x), by rw [if_neg h1, if_pos h2], ?_, Or.inr ⟨Int32.not_lt.mp h1, h2, rfl⟩⟩
      rw [if_pos (show 0 ≤ x ∧ x ≤ len from ⟨Int32.not_lt.mp h1, h2⟩), if_neg one_ne]
    · refine ⟨(0, len), by rw [if_neg h1, if_neg h2], ?_, Or.inl rfl⟩
      rw [if_neg (show ¬ (0 ≤ x ∧ x ≤ len) from fun h => h2 h.2), if_pos rfl]
theorem fault_both (x f fp told : Int32) : ∃ o, F_X11_fault x f fp = some o ∧ F_X12_fault x f fp told = some (o, 0) := by
  unfold F_X11_fault F_X12_fault
  by_cases h1 : x = 0
  · exact ⟨f, by rw [if_pos h1], by rw [if_pos h1]⟩
  · by_cases h2 : x = 1
    · exact ⟨fp, by rw [if_neg h1, if_pos h2], by rw [if_neg h1, if_pos h2]⟩
    · exact ⟨-1, by rw [if_neg h1, if_neg h2], by rw [if_neg h1, if_neg h2]⟩
theorem line_both (x y told : Int32) (r : Nat → Int32) : ∃ o, F_X11_line x y r = some o ∧ F_X12_line x y told r = some (o.1, 0, o.2) ∧ (o.2 = r ∨ ∃ b v, b < 6 ∧ v < 100 ∧ o.2 = upd r b (nI v)) := by
  unfold F_X11_line F_X12_line
  rw [inside_in (a := 5) (by decide), inside_in (a := 99) (by decide)]
  rw [isIn_s, isIn_s]
  simp only [Option.bind_some]
  by_cases h1 : 0 ≤ x ∧ x ≤ 5
  · by_cases h2 : 0 ≤ y ∧ y ≤ 99
    · obtain ⟨b, hb, eb⟩ := nI_of2 (x := x) (M := 5) (n := 5) (by decide) (Int32.not_lt.mpr h1.1) h1.2
      obtain ⟨v, hv, ev⟩ := nI_of2 (x := y) (M := 99) (n := 99) (by decide) (Int32.not_lt.mpr h2.1) h2.2
      subst eb; subst ev
      refine ⟨(1, upd r b (nI v)), ?_, ?_, Or.inr ⟨b, v, by omega, by omega, rfl⟩⟩
      · rw [if_pos h1, if_neg one_ne, if_pos h2, if_neg one_ne, gin, if_neg (nI_in (by omega) (by omega)), nI_clamp (by omega)]
      · rw [if_pos h1, if_neg one_ne, if_pos h2, if_neg one_ne, gin, if_neg (nI_in (by omega) (by omega)), nI_clamp (by omega)]
    · refine ⟨(0, r), ?_, ?_, Or.inl rfl⟩
      · rw [if_pos h1, if_neg one_ne, if_neg h2, if_pos rfl]
      · rw [if_pos h1, if_neg one_ne, if_neg h2, if_pos rfl]
  · refine ⟨(0, r), ?_, ?_, Or.inl rfl⟩
    · rw [if_neg h1, if_pos rfl]
    · rw [if_neg h1, if_pos rfl]
