/-! worth: the loops of both sides -/
theorem win_nI {a b : Nat} (ha : a < 1024) (hb : b < 1024) : (nI a &&& (nI b ^^^ (-1))) = 0 ↔ ∀ i, i < 10 → a.testBit i = true → b.testBit i = true := by
  rw [win_iff]
  constructor
  · intro h i hi hx
    have := h i (by omega) (by rw [bt_nI (by omega)]; exact hx)
    rwa [bt_nI (by omega)] at this
  · intro h i hi hx
    rcases Nat.lt_or_ge i 10 with c | c
    · rw [bt_nI hi] at hx ⊢; exact h i c hx
    · rw [nI_hi ha i c hi] at hx; cases hx
theorem win_le {a b : Nat} (ha : a < 1024) (hb : b < 1024) (h : (nI a &&& (nI b ^^^ (-1))) = 0) : a ≤ b := by
  have h2 := (win_nI ha hb).mp h
  have e : a &&& b = a := by
    apply Nat.eq_of_testBit_eq
    intro i
    rw [Nat.testBit_and]
    rcases Nat.lt_or_ge i 10 with c | c
    · cases hx : a.testBit i
      · rfl
      · rw [h2 i c hx]; rfl
    · have hx : a.testBit i = false := Nat.testBit_lt_two_pow (Nat.lt_of_lt_of_le (show a < 2 ^ 10 from ha) (Nat.pow_le_pow_right (by omega) c))
      rw [hx, Bool.false_and]
  rw [← e]
  exact Nat.and_le_right
/-- a set with one more member -/
theorem or_one {q m : Nat} (hq : q < 1024) (hm : m < 10) : nI q ||| ((1 : Int32) <<< (nI m &&& 31)) = nI (q ||| 2 ^ m) := by
  apply b_ext
  intro i hi
  rw [b_or, bt_nI hi, bt_nI hi, b_one (by omega) hi, Nat.testBit_or, Nat.testBit_two_pow]
  congr 1
  exact decide_eq_decide.mpr (by omega)
theorem or_lt {q m : Nat} (hq : q < 1024) (hm : m < 10) : q ||| 2 ^ m < 1024 := Nat.or_lt_two_pow (n := 10) hq (Nat.pow_lt_pow_right (by omega) hm)
/-- i is worth no less than j, over the sets below n -/
def nl (o : Nat) (bits : Nat → Int32) (i j n : Nat) : Prop := ∀ q, q < n → (nI q &&& (nI o ^^^ (-1))) = 0 → tb bits (q ||| 2 ^ j) = true → tb bits (q ||| 2 ^ i) = true
theorem noLess_20 {bits : Nat → Int32} {tin : Int32} {i j o : Nat} (hi : i < 10) (hj : j < 10) (ho : o < 1024) : ∀ (fuel q : Nat), 1025 - q < fuel → q ≤ o + 1 → nl o bits i j q → ∃ v, F_X9_noLess_20 (nI i) (nI j) tin bits fuel (nI o) (nI q) = some v ∧ (v = 0 ∨ v = 1) ∧ (v = 1 ↔ nl o bits i j 1024) := by
  intro fuel
  induction fuel with
  | zero => intro q h; omega
  | succ n ih =>
    intro q h hq hN
    rw [F_X9_noLess_20]
    rcases Nat.lt_or_ge o q with hlt | hge
    · rw [if_pos (nI_lt hlt (by omega))]
      refine ⟨1, rfl, Or.inr rfl, fun _ => ?_, fun _ => rfl⟩
      intro z hz hw
      have := win_le hz ho hw
      exact hN z (by omega) hw
    · have hq1 : q < 1024 := by omega
      rw [if_neg (nI_nlt hge (by omega)), isWithin_s, Option.bind_some, nI_1, or_one hq1 hj, or_one hq1 hi, at_s (or_lt hq1 hj), at_s (or_lt hq1 hi)]
      simp only [Option.bind_some]
      have go : (∀ (_ : (nI q &&& (nI o ^^^ (-1))) = 0), tb bits (q ||| 2 ^ j) = true → tb bits (q ||| 2 ^ i) = true) → nl o bits i j (q + 1) := by
        intro hs z hz
        by_cases e : z = q
        · subst e; exact hs
        · exact hN z (by omega)
      by_cases c1 : (nI q &&& (nI o ^^^ (-1))) = 0
      · rw [if_pos c1, if_neg one_ne]
        by_cases c2 : tb bits (q ||| 2 ^ j) = true
        · rw [if_pos c2, if_neg one_ne]
          by_cases c3 : tb bits (q ||| 2 ^ i) = true
          · rw [if_pos c3, if_neg one_ne]
            exact ih (q + 1) (by omega) (by omega) (go (fun _ _ => c3))
          · rw [if_neg c3, if_pos rfl]
            exact ⟨0, rfl, Or.inl rfl, fun e => absurd e.symm one_ne, fun e => absurd (e q hq1 c1 c2) c3⟩
        · rw [if_neg c2, if_pos rfl]
          exact ih (q + 1) (by omega) (by omega) (go (fun _ e => absurd e c2))
      · rw [if_neg c1, if_pos rfl]
        exact ih (q + 1) (by omega) (by omega) (go (fun e => absurd e c1))
