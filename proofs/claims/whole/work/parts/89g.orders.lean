/-! the orders of a set of motions, one behind the other -/
/-- two rows alike in their first n -/
def Alk (n : Nat) (r r2 : Nat → Int32) : Prop := ∀ j, j < n → r j = r2 j
theorem Alk.swap {n : Nat} {r r2 : Nat → Int32} (h : Alk n r r2) {i j : Nat} (hi : i < n) (hj : j < n) : Alk n (upd (upd r i (r j)) j (r i)) (upd (upd r2 i (r2 j)) j (r2 i)) := by
  intro k hk
  rw [h i hi, h j hj]
  by_cases e1 : k = j
  · subst e1; rw [upd_self, upd_self]
  · rw [upd_ne _ _ e1, upd_ne _ _ e1]
    by_cases e2 : k = i
    · subst e2; rw [upd_self, upd_self]
    · rw [upd_ne _ _ e2, upd_ne _ _ e2]; exact h k hk
theorem swap_s {r : Nat → Int32} {i j : Nat} (hi : i < 6) (hj : j < 6) : F_X4_swap (nI i) (nI j) r = some (upd (upd r i (r j)) j (r i)) := by
  unfold F_X4_swap
  rw [show (6 : Int32) = nI 6 from rfl, inside_n (by omega) (by omega), if_pos hi, Option.bind_some, if_neg one_ne, inside_n (by omega) (by omega), if_pos hj, Option.bind_some, if_neg one_ne, gin_n hi (by omega), gin_n hj (by omega), gin_n hi (by omega), gin_n hj (by omega), nI_clamp (by omega), nI_clamp (by omega)]
theorem sub1 (x : Int32) : x - 1 = x + (-1) := by rw [Int32.sub_eq_add_neg]
section NX
variable {n : Nat}
theorem next_rev (hn : n ≤ 6) (c1 c2 : Int32) : ∀ (f1 f2 a b : Nat) (r r2 : Nat → Int32), b < f1 → b < f2 → b < n → a ≤ 6 → Alk n r r2 → ∃ q q2, F_X4_nextOrder_107 c1 f1 (nI a) (nI b) r = some (1, q) ∧ F_X12_nextRow_109 c2 f2 (nI a) (nI b) r2 = some (1, q2) ∧ Alk n q q2 := by
  intro f1
  induction f1 with
  | zero => intro f2 a b r r2 h; omega
  | succ f1 ih =>
    intro f2 a b r r2 h1 h2 hb ha hA
    obtain ⟨f2, rfl⟩ : ∃ g, f2 = g + 1 := ⟨f2 - 1, by omega⟩
    rw [F_X4_nextOrder_107, F_X12_nextRow_109]
    by_cases c : b ≤ a
    · rw [if_pos (nI_le c (by omega)), if_pos (nI_le c (by omega))]
      exact ⟨r, r2, rfl, rfl, hA⟩
    · obtain ⟨b, rfl⟩ : ∃ k, b = k + 1 := ⟨b - 1, by omega⟩
      rw [if_neg (nI_ge (by omega) (by omega)), if_neg (nI_ge (by omega) (by omega)), swap_s (by omega) (by omega), Option.bind_some, gin_n (show a < 6 by omega) (by omega), gin_n (show b + 1 < 6 by omega) (by omega), gin_n (show a < 6 by omega) (by omega), gin_n (show b + 1 < 6 by omega) (by omega), nI_clamp (show a < 2 ^ 31 by omega), nI_clamp (show b + 1 < 2 ^ 31 by omega), nI_1, pk_m1, nI_pred]
      exact ih f2 (a + 1) b _ _ (by omega) (by omega) (by omega) (by omega) (hA.swap (by omega) hb)
theorem next_48 (h1 : 1 ≤ n) (hn : n ≤ 6) : ∀ (f1 f2 i j : Nat) (r r2 : Nat → Int32), j < f1 → j < f2 → i < j → j < n → r i ≤ r (i + 1) → Alk n r r2 → ∃ q q2, F_X4_nextOrder_63 (nI n) f1 (nI i) (nI j) r = some (1, q) ∧ F_X12_nextRow_48 (nI n) f2 (nI i) (nI j) r2 = some (1, q2) ∧ Alk n q q2 := by
  intro f1
  induction f1 with
  | zero => intro f2 i j r r2 h; omega
  | succ f1 ih =>
    intro f2 i j r r2 g1 g2 hij hj hle hA
    obtain ⟨f2, rfl⟩ : ∃ g, f2 = g + 1 := ⟨f2 - 1, by omega⟩
    rw [F_X4_nextOrder_63, F_X12_nextRow_48, if_neg (nI_ge hij (by omega)), gin_n (show j < 6 by omega) (by omega), gin_n (show i < 6 by omega) (by omega), gin_n (show j < 6 by omega) (by omega), gin_n (show i < 6 by omega) (by omega), nI_clamp (show i < 2 ^ 31 by omega), nI_clamp (show j < 2 ^ 31 by omega), ← hA i (by omega), ← hA j hj]
    by_cases c : r i ≤ r j
    · rw [if_pos c, if_pos c]
      unfold F_X4_nextOrder_89 F_X12_nextRow_70
      rw [swap_s (by omega) (by omega), Option.bind_some, gin_n (show i < 6 by omega) (by omega), gin_n (show j < 6 by omega) (by omega), gin_n (show i < 6 by omega) (by omega), gin_n (show j < 6 by omega) (by omega), nI_clamp (show i < 2 ^ 31 by omega), nI_clamp (show j < 2 ^ 31 by omega), nI_1, show (1 : Int32) = nI 1 from rfl, pk_sub h1]
      exact next_rev hn (nI n) (nI n) FU FU (i + 1) (n - 1) _ _ (by unfold FU; omega) (by unfold FU; omega) (by omega) (by omega) (hA.swap (by omega) hj)
    · have hne : j ≠ i + 1 := fun e => c (by rw [e]; exact hle)
      obtain ⟨j, rfl⟩ : ∃ k, j = k + 1 := ⟨j - 1, by omega⟩
      rw [if_neg c, if_neg c, pk_m1, nI_pred]
      exact ih f2 i j r r2 (by omega) (by omega) (by omega) (by omega) hle hA
theorem next_7 (h1 : 1 ≤ n) (hn : n ≤ 6) : ∀ (f1 f2 i : Nat) (r r2 : Nat → Int32), i < f1 → i < f2 → i < n → Alk n r r2 → ∃ b q q2, F_X4_nextOrder_23 (nI n) f1 (nI i + (-1)) r = some (b, q) ∧ F_X12_nextRow_7 (nI n) f2 (nI i + (-1)) r2 = some (b, q2) ∧ Alk n q q2 ∧ (b = 0 ∨ b = 1) := by
  intro f1
  induction f1 with
  | zero => intro f2 i r r2 h; omega
  | succ f1 ih =>
    intro f2 i r r2 g1 g2 hi hA
    obtain ⟨f2, rfl⟩ : ∃ g, f2 = g + 1 := ⟨f2 - 1, by omega⟩
    rw [F_X4_nextOrder_23, F_X12_nextRow_7]
    by_cases c : i = 0
    · subst c
      rw [if_pos (show nI 0 + (-1) < 0 by decide), if_pos (show nI 0 + (-1) < 0 by decide)]
      unfold F_X4_nextOrder_50 F_X12_nextRow_35
      rw [if_neg (show ¬ 0 ≤ nI 0 + (-1) by decide), if_neg (show ¬ 0 ≤ nI 0 + (-1) by decide)]
      exact ⟨0, r, r2, rfl, rfl, hA, Or.inl rfl⟩
    · obtain ⟨i, rfl⟩ : ∃ k, i = k + 1 := ⟨i - 1, by omega⟩
      rw [pk_m1, if_neg (nI_pos (by omega)), if_neg (nI_pos (by omega)), nI_1, gin_n (show i < 6 by omega) (by omega), gin_n (show i + 1 < 6 by omega) (by omega), gin_n (show i < 6 by omega) (by omega), gin_n (show i + 1 < 6 by omega) (by omega), nI_clamp (show i < 2 ^ 31 by omega), nI_clamp (show i + 1 < 2 ^ 31 by omega), ← hA i (by omega), ← hA (i + 1) hi]
      by_cases c2 : r i ≤ r (i + 1)
      · rw [if_pos c2, if_pos c2]
        unfold F_X4_nextOrder_50 F_X12_nextRow_35
        rw [if_pos (nI_pos' (by omega)), if_pos (nI_pos' (by omega)), show (1 : Int32) = nI 1 from rfl, pk_sub h1]
        obtain ⟨q, q2, e1, e2, e3⟩ := next_48 h1 hn FU FU i (n - 1) r r2 (by unfold FU; omega) (by unfold FU; omega) (by omega) (by omega) c2 hA
        exact ⟨1, q, q2, e1, e2, e3, Or.inr rfl⟩
      · rw [if_neg c2, if_neg c2, sub1]
        exact ih f2 i r r2 (by omega) (by omega) (by omega) hA
theorem sub2 : ∀ n, n < 7 → 1 ≤ n → nI n - 2 = nI (n - 1) + (-1) := by decide +kernel
theorem next_both (h1 : 1 ≤ n) (hn : n ≤ 6) {r r2 : Nat → Int32} (hA : Alk n r r2) : ∃ b q q2, F_X4_nextOrder (nI n) r = some (b, q) ∧ F_X12_nextRow (nI n) r2 = some (b, q2) ∧ Alk n q q2 ∧ (b = 0 ∨ b = 1) := by
  unfold F_X4_nextOrder F_X12_nextRow
  have e1 : nI n - 1 = nI (n - 1) := by rw [show (1 : Int32) = nI 1 from rfl, pk_sub h1]
  rw [e1, show (6 : Int32) = nI 6 from rfl, inside_n (by omega) (by omega), if_pos (show n - 1 < 6 by omega), Option.bind_some, if_neg one_ne, sub2 n (by omega) h1]
  exact next_7 h1 hn FU FU (n - 1) r r2 (by unfold FU; omega) (by unfold FU; omega) (by omega) hA
/-- the digits that tell a row -/
theorem digits_same (hn : n ≤ 6) {r r2 : Nat → Int32} (hA : Alk n r r2) : ∃ v, F_X4_toDigits (nI n) r = some v ∧ F_X12_digits (nI n) r2 = some v := by
  have key : ∀ (f1 f2 i : Nat) (x : Int32), n - i < f1 → n - i < f2 → i ≤ n → ∃ v, F_X4_toDigits_5 (nI n) r f1 x (nI i) = some v ∧ F_X12_digits_5 (nI n) r2 f2 x (nI i) = some v := by
    intro f1
    induction f1 with
    | zero => intro f2 i x h; omega
    | succ f1 ih =>
      intro f2 i x g1 g2 hi
      obtain ⟨f2, rfl⟩ : ∃ g, f2 = g + 1 := ⟨f2 - 1, by omega⟩
      rw [F_X4_toDigits_5, F_X12_digits_5]
      rcases Nat.lt_or_ge i n with hlt | hge
      · rw [if_neg (nI_ge hlt (by omega)), if_neg (nI_ge hlt (by omega)), if_neg (show ¬ (6 : Int32) ≤ nI i from nI_ge (b := 6) (by omega) (by omega)), gin_n (show i < 6 by omega) (by omega), gin_n (show i < 6 by omega) (by omega), nI_clamp (by omega), nI_1, ← hA i hlt, Int32.mul_comm 10 x]
        exact ih f2 (i + 1) _ (by omega) (by omega) (by omega)
      · rw [if_pos (nI_le hge (by omega)), if_pos (nI_le hge (by omega))]
        exact ⟨x, rfl, rfl⟩
  unfold F_X4_toDigits F_X12_digits
  have := key FU FU 0 9 (by unfold FU; omega) (by unfold FU; omega) (by omega)
  rw [nI_0] at this
  exact this
end NX
/-! all orders of a set come, and no more than 720 -/
def rowOf (l : List Nat) : Nat → Int32 := fun j => nI (l.getD j 0)
def okL (n : Nat) : Nat → List Nat → Bool
  | 0, _ => false
  | k + 1, l => match F_X12_nextRow (nI n) (rowOf l) with
    | some (b, r) => if b = 0 then true else (List.range n).all (fun i => decide (r i = nI (r i).toNatClampNeg) && decide ((r i).toNatClampNeg < 6)) && okL n k ((List.range n).map fun i => (r i).toNatClampNeg)
    | none => false
def setL (q : Nat) : Nat → List Nat
  | 0 => []
  | x + 1 => if q.testBit x = true then setL q x ++ [x] else setL q x
set_option maxRecDepth 100000 in
theorem okL_1 : ∀ q, q < 8 → 0 < q → okL (setL q 6).length 720 (setL q 6) = true := by decide +kernel
set_option maxRecDepth 100000 in
theorem okL_63 : okL (setL 63 6).length 720 (setL 63 6) = true := by decide +kernel
set_option maxRecDepth 100000 in
theorem okL_2 : ∀ q, q < 31 → 8 ≤ q → okL (setL q 6).length 720 (setL q 6) = true := by decide +kernel
set_option maxRecDepth 100000 in
theorem okL_3 : ∀ q, q < 47 → 31 ≤ q → okL (setL q 6).length 720 (setL q 6) = true := by decide +kernel
set_option maxRecDepth 100000 in
theorem okL_4 : ∀ q, q < 63 → 47 ≤ q → okL (setL q 6).length 720 (setL q 6) = true := by decide +kernel
theorem okL_all {q : Nat} (h0 : 0 < q) (hq : q < 64) : okL (setL q 6).length 720 (setL q 6) = true := by
  rcases Nat.lt_or_ge q 8 with c | c
  · exact okL_1 q c h0
  rcases Nat.lt_or_ge q 31 with c2 | c2
  · exact okL_2 q c2 c
  rcases Nat.lt_or_ge q 47 with c3 | c3
  · exact okL_3 q c3 c2
  rcases Nat.lt_or_ge q 63 with c4 | c4
  · exact okL_4 q c4 c3
  · have e : q = 63 := by omega
    subst e
    exact okL_63
