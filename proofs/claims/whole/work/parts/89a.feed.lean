/-! feed, value -/
/-- the tape's rows hold bytes -/
def Bytes (r : Nat → Int32) : Prop := ∀ j, j < 400 → ∃ v, v < 256 ∧ r j = nI v
theorem Bytes.upd {r : Nat → Int32} (h : Bytes r) (k : Nat) (x : Int32) : Bytes (upd r k (x &&& 255)) := by
  intro j hj
  by_cases e : j = k
  · subst e
    rw [upd_self]
    exact pk_andE x 8 (by decide)
  · rw [upd_ne _ _ e]; exact h j hj
/-- four bytes behind the n-th -/
def put4 (x : Int32) (n : Nat) (r : Nat → Int32) : Nat → Int32 := upd (upd (upd (upd r n ((x >>> ((24 : Int32) &&& 31)) &&& 255)) (n + 1) ((x >>> ((16 : Int32) &&& 31)) &&& 255)) (n + 2) ((x >>> ((8 : Int32) &&& 31)) &&& 255)) (n + 3) ((x >>> ((0 : Int32) &&& 31)) &&& 255)
theorem put_n {n : Nat} (hn : n + 4 ≤ 400) (x : Int32) (r : Nat → Int32) : F_X5_put x (nI n) r = some (nI (n + 4), put4 x n r) := by
  have key : ∀ f, F_X5_put_3 x (f + 1 + 1 + 1 + 1 + 1) 24 (nI n) r = some (nI (n + 4), put4 x n r) := by
    intro f
    rw [F_X5_put_3, if_neg (by decide), if_neg (show ¬ (400 : Int32) ≤ nI n from nI_ge (b := 400) (by omega) (by omega)), gin_n (show n < 400 by omega) (by omega), nI_clamp (by omega), nI_1, show (24 : Int32) + -8 = 16 by decide]
    rw [F_X5_put_3, if_neg (by decide), if_neg (show ¬ (400 : Int32) ≤ nI (n + 1) from nI_ge (b := 400) (by omega) (by omega)), gin_n (show n + 1 < 400 by omega) (by omega), nI_clamp (by omega), nI_1, show (16 : Int32) + -8 = 8 by decide]
    rw [F_X5_put_3, if_neg (by decide), if_neg (show ¬ (400 : Int32) ≤ nI (n + 1 + 1) from nI_ge (b := 400) (by omega) (by omega)), gin_n (show n + 1 + 1 < 400 by omega) (by omega), nI_clamp (by omega), nI_1, show (8 : Int32) + -8 = 0 by decide]
    rw [F_X5_put_3, if_neg (by decide), if_neg (show ¬ (400 : Int32) ≤ nI (n + 1 + 1 + 1) from nI_ge (b := 400) (by omega) (by omega)), gin_n (show n + 1 + 1 + 1 < 400 by omega) (by omega), nI_clamp (by omega), nI_1, show (0 : Int32) + -8 = -8 by decide]
    rw [F_X5_put_3, if_pos (by decide)]
    rfl
  unfold F_X5_put
  rw [show FU = 99995 + 1 + 1 + 1 + 1 + 1 from rfl]
  exact key 99995
theorem puts_n {n : Nat} (hn : n + 4 ≤ 400) (x : Int32) (r : Nat → Int32) : F_X12_puts x (nI n) r = some (nI (n + 4), put4 x n r) := by
  have key : ∀ f, F_X12_puts_3 x (f + 1 + 1 + 1 + 1 + 1) 24 (nI n) r = some (nI (n + 4), put4 x n r) := by
    intro f
    rw [F_X12_puts_3, if_neg (by decide), gin_n (show n < 400 by omega) (by omega), nI_clamp (by omega), nI_1, show (24 : Int32) + -8 = 16 by decide]
    rw [F_X12_puts_3, if_neg (by decide), gin_n (show n + 1 < 400 by omega) (by omega), nI_clamp (by omega), nI_1, show (16 : Int32) + -8 = 8 by decide]
    rw [F_X12_puts_3, if_neg (by decide), gin_n (show n + 1 + 1 < 400 by omega) (by omega), nI_clamp (by omega), nI_1, show (8 : Int32) + -8 = 0 by decide]
    rw [F_X12_puts_3, if_neg (by decide), gin_n (show n + 1 + 1 + 1 < 400 by omega) (by omega), nI_clamp (by omega), nI_1, show (0 : Int32) + -8 = -8 by decide]
    rw [F_X12_puts_3, if_pos (by decide)]
    rfl
  unfold F_X12_puts
  rw [show FU = 99995 + 1 + 1 + 1 + 1 + 1 from rfl]
  exact key 99995
theorem put4_bytes {x : Int32} {n : Nat} {r : Nat → Int32} (h : Bytes r) : Bytes (put4 x n r) := (((h.upd _ _).upd _ _).upd _ _).upd _ _
/-- feed: refused on both sides, or the same twenty bytes -/
theorem feed_both {n : Nat} (hn : n ≤ 400) (x1 x2 x3 x4 x5 told : Int32) {r : Nat → Int32} (hB : Bytes r) :
    ∃ a n' r', n' ≤ 400 ∧ Bytes r' ∧ F_X11_feed x1 x2 x3 x4 x5 (nI n) r = some (a, nI n', r') ∧ F_X12_feed x1 x2 x3 x4 x5 (nI n) told r = some (a, nI n', 0, r') := by
  unfold F_X11_feed F_X12_feed
  rw [show (20 : Int32) = nI 20 from rfl, nI_add]
  by_cases c : n ≤ 380
  · rw [if_pos (show nI (n + 20) ≤ (400 : Int32) from nI_le (b := 400) (by omega) (by omega)), if_pos (show nI n ≤ (380 : Int32) from nI_le (b := 380) c (by omega))]
    rw [put_n (by omega), puts_n (by omega), Option.bind_some, Option.bind_some]
    dsimp only
    rw [put_n (by omega), puts_n (by omega), Option.bind_some, Option.bind_some]
    dsimp only
    rw [put_n (by omega), puts_n (by omega), Option.bind_some, Option.bind_some]
    dsimp only
    rw [put_n (by omega), puts_n (by omega), Option.bind_some, Option.bind_some]
    dsimp only
    rw [put_n (by omega), puts_n (by omega), Option.bind_some, Option.bind_some]
    exact ⟨_, _, _, by omega, put4_bytes (put4_bytes (put4_bytes (put4_bytes (put4_bytes hB)))), rfl, rfl⟩
  · rw [if_neg (show ¬ nI (n + 20) ≤ (400 : Int32) from nI_ge (a := 400) (by omega) (by omega)), if_neg (show ¬ nI n ≤ (380 : Int32) from nI_ge (a := 380) (by omega) (by omega))]
    exact ⟨_, n, r, hn, hB, rfl, rfl⟩
theorem value_both (x y z told : Int32) (r : Nat → Int32) : ∃ o, F_X11_value x y z r = some o ∧ F_X12_value x y z told r = some (o.1, 0, o.2) ∧ (o.2 = r ∨ ∃ i v, i < 48 ∧ v < 100 ∧ o.2 = upd r i (nI v)) := by
  unfold F_X11_value F_X12_value F_X0_price
  rw [inside_in (a := 7) (by decide), inside_in (a := 5) (by decide), inside_in (a := 99) (by decide), isIn_s, isIn_s, isIn_s]
  simp only [Option.bind_some]
  by_cases h1 : 0 ≤ x ∧ x ≤ 7
  rotate_left
  · exact ⟨(0, r), by simp only [if_neg h1, if_true], by simp only [if_neg h1, if_true], Or.inl rfl⟩
  by_cases h2 : 0 ≤ y ∧ y ≤ 5
  rotate_left
  · exact ⟨(0, r), by simp only [if_pos h1, if_neg one_ne, if_neg h2, if_true], by simp only [if_pos h1, if_neg one_ne, if_neg h2, if_true], Or.inl rfl⟩
  by_cases h3 : 0 ≤ z ∧ z ≤ 99
  rotate_left
  · exact ⟨(0, r), by simp only [if_pos h1, if_pos h2, if_neg one_ne, if_neg h3, if_true], by simp only [if_pos h1, if_pos h2, if_neg one_ne, if_neg h3, if_true], Or.inl rfl⟩
  obtain ⟨p, hp, ep⟩ := nI_of2 (x := x) (M := 7) (n := 7) (by decide) (Int32.not_lt.mpr h1.1) h1.2
  obtain ⟨b, hb, eb⟩ := nI_of2 (x := y) (M := 5) (n := 5) (by decide) (Int32.not_lt.mpr h2.1) h2.2
  obtain ⟨v, hv, ev⟩ := nI_of2 (x := z) (M := 99) (n := 99) (by decide) (Int32.not_lt.mpr h3.1) h3.2
  subst ep; subst eb; subst ev
  refine ⟨(1, upd r (6 * p + b) (nI v)), ?_, ?_, Or.inr ⟨6 * p + b, v, by omega, by omega, rfl⟩⟩
  · simp only [if_pos h1, if_pos h2, if_pos h3, if_neg one_ne]
    rw [show (6 : Int32) = nI 6 from rfl, pk_mul, nI_add, gin_n (show p * 6 + b < 48 by omega) (by omega), nI_clamp (by omega), Option.bind_some, Nat.mul_comm]
  · simp only [if_pos h1, if_pos h2, if_pos h3, if_neg one_ne]
    rw [show (6 : Int32) = nI 6 from rfl, pk_mul, nI_add, gin_n (show 6 * p + b < 48 by omega) (by omega), nI_clamp (by omega)]
