/-- DivisionHall.inside, has, isWithin: what they answer -/
theorem inside_s (i n : Int32) : F_X11_inside i n = some (if 0 ≤ i ∧ i < n then 1 else 0) := by
  unfold F_X11_inside
  by_cases h1 : i < 0
  · rw [if_pos h1, if_neg (fun h => absurd h1 (Int32.not_lt.mpr h.1))]
  · by_cases h2 : n ≤ i
    · rw [if_neg h1, if_pos h2, if_neg (fun h => absurd h2 (Int32.not_le.mpr h.2))]
    · rw [if_neg h1, if_neg h2, if_pos ⟨Int32.not_lt.mp h1, Int32.not_le.mp h2⟩]
theorem inside_n {i n : Nat} (hi : i < 2 ^ 31) (hn : n < 2 ^ 31) : F_X11_inside (nI i) (nI n) = some (if i < n then 1 else 0) := by
  rw [inside_s]
  congr 1
  by_cases h : i < n
  · rw [if_pos h, if_pos ⟨nI_pos' hi, nI_lt h hn⟩]
  · rw [if_neg h, if_neg (fun q => h ((nI_ltI hi hn).mp q.2))]
theorem has_s (x : Int32) {m : Nat} (hm : m < 32) : F_X11_has x (nI m) = some (if bt x m = true then 1 else 0) := by
  unfold F_X11_has
  by_cases h : bt x m = true
  · rw [if_neg (fun q => by rw [(shr1_0 x hm).mp q] at h; cases h), if_pos h]
  · rw [if_pos ((shr1_0 x hm).mpr (by simpa using h)), if_neg h]
theorem isWithin_s (x y : Int32) : F_X11_isWithin x y = some (if (x &&& (y ^^^ (-1))) = 0 then 1 else 0) := by
  unfold F_X11_isWithin
  by_cases h : (x &&& (y ^^^ (-1))) = 0
  · rw [if_pos h, if_pos h]
  · rw [if_neg h, if_neg h]
theorem gin_n {α : Type} {i n : Nat} (h : i < n) (hn : n < 2 ^ 31) (x : Option α) : gin (nI i) n x = x := by unfold gin; exact if_neg (nI_in h hn)
theorem one_ne : ¬ (1 : Int32) = 0 := by decide
