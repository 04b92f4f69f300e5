/-- Arrays.fill: the row filled -/
def fill_row (x : Int32) (n : Nat) (r : Nat → Int32) : Nat → Int32 := fun k => if k < n then x else r k
theorem fill_loop (x : Int32) (N : Nat) (hN : N < 2 ^ 31) : ∀ (fuel i : Nat) (r : Nat → Int32), N - i < fuel → i ≤ N → F_J7_fill_53178_5 N x fuel (nI i) (nI N) r = some (fun k => if i ≤ k ∧ k < N then x else r k) := by
  intro fuel
  induction fuel with
  | zero => intro i r h; omega
  | succ n ih =>
    intro i r h hi
    rw [F_J7_fill_53178_5]
    rcases Nat.lt_or_ge i N with hlt | hge
    · rw [if_neg (nI_ge hlt hN), gin, if_neg (nI_in hlt hN), nI_1, nI_clamp (by omega), ih (i + 1) _ (by omega) (by omega)]
      congr 1
      funext k
      unfold upd
      by_cases hk : k = i
      · subst hk
        rw [if_neg (by omega), if_pos rfl, if_pos (by omega)]
      · rw [if_neg hk]
        by_cases h2 : i ≤ k ∧ k < N
        · rw [if_pos h2, if_pos (by omega)]
        · rw [if_neg h2, if_neg (by omega)]
    · have e : i = N := by omega
      subst e
      rw [if_pos (nI_le (Nat.le_refl _) hN)]
      congr 1
      funext k
      rw [if_neg (by omega)]
theorem fill_ok (x : Int32) {n : Nat} (r : Nat → Int32) (hn : n < 100000) : F_J7_fill_53178 x n r = some (fill_row x n r) := by
  unfold F_J7_fill_53178 FU
  rw [show (0 : Int32) = nI 0 from nI_0.symm, show Int32.ofNat n = nI n from rfl, fill_loop x n (by omega) 100000 0 r (by omega) (by omega)]
  congr 1
  funext k
  unfold fill_row
  by_cases h : k < n
  · rw [if_pos ⟨Nat.zero_le _, h⟩, if_pos h]
  · rw [if_neg (fun q => h q.2), if_neg h]
