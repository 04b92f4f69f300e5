/-! odd: the spoiler, and the loops of both sides -/
/-- the least member from i on (n of them) with which the set q does not carry any more, or -1 -/
def spl (sin : Int32) (bits : Nat → Int32) (q : Nat) : Nat → Nat → Int32
  | 0, _ => -1
  | n + 1, i => if bt sin i = true ∧ bt (nI q) i = false ∧ ¬ tb bits (q ||| 2 ^ i) = true then nI i else spl sin bits q n (i + 1)
theorem spl_rng {sin : Int32} {bits : Nat → Int32} {q : Nat} : ∀ n i, spl sin bits q n i = -1 ∨ ∃ j, i ≤ j ∧ j < i + n ∧ spl sin bits q n i = nI j := by
  intro n
  induction n with
  | zero => intro i; exact Or.inl rfl
  | succ n ih =>
    intro i
    rw [spl]
    split
    · exact Or.inr ⟨i, Nat.le_refl _, by omega, rfl⟩
    · rcases ih (i + 1) with h | ⟨j, h1, h2, h3⟩
      · exact Or.inl h
      · exact Or.inr ⟨j, by omega, by omega, h3⟩
theorem spl_out {sin : Int32} {bits : Nat → Int32} {q : Nat} : ∀ n i, (∀ j, i ≤ j → j < i + n → bt sin j = false) → spl sin bits q n i = -1 := by
  intro n
  induction n with
  | zero => intro i _; rfl
  | succ n ih =>
    intro i h
    rw [spl, if_neg (fun c => by rw [h i (Nat.le_refl _) (by omega)] at c; cases c.1), ih (i + 1) (fun j a b => h j (by omega) (by omega))]
theorem spl_cut {sin : Int32} {bits : Nat → Int32} {q : Nat} (e : Nat) : ∀ n i, (∀ j, i + n ≤ j → j < i + n + e → bt sin j = false) → spl sin bits q (n + e) i = spl sin bits q n i := by
  intro n
  induction n with
  | zero =>
    intro i h
    rw [Nat.zero_add, spl_out e i (fun j a b => h j (by omega) (by omega))]; rfl
  | succ n ih =>
    intro i h
    rw [show n + 1 + e = (n + e) + 1 by omega, spl, spl]
    split
    · rfl
    · exact ih (i + 1) (fun j a b => h j (by omega) (by omega))
theorem spoiler_11 {sin : Int32} {bits : Nat → Int32} {q : Nat} (hq : q < 1024) : ∀ (fuel i : Nat), 10 - i < fuel → i ≤ 10 → F_X9_spoiler_11 (nI q) sin bits fuel (sin &&& (nI q ^^^ (-1))) (nI i) = some (spl sin bits q (10 - i) i) := by
  intro fuel
  induction fuel with
  | zero => intro i h; omega
  | succ n ih =>
    intro i h hi
    rw [F_X9_spoiler_11]
    rcases Nat.lt_or_ge i 10 with hlt | hge
    · have next := ih (i + 1) (by omega) (by omega)
      rw [if_neg (show ¬ (10 : Int32) ≤ nI i from nI_ge (b := 10) hlt (by omega)), has_s _ (show i < 32 by omega), b_and, b_not _ (show i < 32 by omega), nI_1, or_one hq hlt, at_s (or_lt hq hlt), next]
      simp only [Option.bind_some]
      rw [show 10 - i = (10 - (i + 1)) + 1 by omega, spl]
      by_cases c1 : bt sin i = true
      · by_cases c2 : bt (nI q) i = true
        · rw [c1, c2]
          simp
        · have c2' : bt (nI q) i = false := by simpa using c2
          rw [c1, c2']
          by_cases c3 : tb bits (q ||| 2 ^ i) = true
          · simp [c3]
          · simp [c3]
      · have c1' : bt sin i = false := by simpa using c1
        rw [c1']
        simp
    · have e : i = 10 := by omega
      subst e
      rw [if_pos (show (10 : Int32) ≤ nI 10 from nI_le (a := 10) (Nat.le_refl _) (by omega))]
      rfl
theorem spoiler_s {sin : Int32} {bits : Nat → Int32} {q : Nat} (hq : q < 1024) : F_X9_spoiler (nI q) sin bits = some (spl sin bits q 10 0) := by
  unfold F_X9_spoiler
  have h := spoiler_11 (sin := sin) (bits := bits) hq FU 0 (by unfold FU; omega) (by omega)
  rw [nI_0] at h
  exact h
