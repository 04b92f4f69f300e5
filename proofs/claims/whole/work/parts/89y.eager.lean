/-! what waits may as well have gone into the code, where the next token lets it go anyhow -/
def SEq (R R' : Nat × PS) : Prop := R = R' ∨ (R.1 = R'.1 ∧ R.1 ≠ 0 ∧ R.1 ≠ 4)
theorem CR.sameE {T : Nat → Nat} {n i : Nat} {S S' : PS} {out : Nat × Nat × List (Nat × Nat)} (h : SEq (step S (tS T n i) (tV T n i)) (step S' (tS T n i) (tV T n i))) (hr : CR T n i S' out) : CR T n i S out := by
  rcases h with h | ⟨h1, h2, h3⟩
  · exact CR.same h hr
  · obtain ⟨f, hf⟩ := hr
    refine ⟨f, ?_⟩
    cases f with
    | zero => cases hf
    | succ f =>
      rw [crun] at hf ⊢
      rw [h1] at h2 h3
      rw [if_neg h2, if_neg h3] at hf
      rw [h1, if_neg h2, if_neg h3]
      exact hf
section EAG
variable {s st nm cm op pa nu v x k : Nat} {W : List Nat} {L : List (Nat × Nat)}
theorem rel_pop (h : k ≤ rk x) (h14 : x ≠ 14) : rel k (x :: W) op L = rel k W op (L ++ [(x, 0)]) := by
  rw [rel, if_pos h, if_neg h14]
theorem rel_popN (h : k ≤ 3) : rel k (14 :: W) op L = rel k W (op - 1) (L ++ [(14, 0)]) := by
  rw [rel, if_pos (show k ≤ rk 14 from h), if_pos rfl]
theorem bc_eag (h4 : 3 ≤ rk x) (h14 : x ≠ 14) : SEq (sBC s nm cm op pa nu (x :: W) L) (sBC s nm cm op pa nu W (L ++ [(x, 0)])) := by
  unfold sBC pushS
  by_cases c : s = 21 ∨ s = 22
  · have hk : rk s ≤ rk x := by
      have : rk s ≤ 2 := by rcases c with c | c <;> subst c <;> decide
      omega
    rw [if_pos c, if_pos c, rel_pop hk h14]
    exact Or.inl rfl
  rw [if_neg c, if_neg c, rel_pop (show 1 ≤ rk x by omega) h14]
  split
  · exact Or.inl rfl
  split
  · exact Or.inl rfl
  · exact Or.inr ⟨rfl, by dsimp only; omega, by dsimp only; omega⟩
theorem bc_eagN : SEq (sBC s nm cm op pa nu (14 :: W) L) (sBC s nm cm (op - 1) pa nu W (L ++ [(14, 0)])) := by
  unfold sBC pushS
  by_cases c : s = 21 ∨ s = 22
  · have hk : rk s ≤ 3 := by rcases c with c | c <;> subst c <;> decide
    rw [if_pos c, if_pos c, rel_popN hk]
    exact Or.inl rfl
  rw [if_neg c, if_neg c, rel_popN (show 1 ≤ 3 by omega)]
  split
  · exact Or.inl rfl
  split
  · exact Or.inl rfl
  · exact Or.inr ⟨rfl, by dsimp only; omega, by dsimp only; omega⟩
theorem bu_eag (h4 : 4 ≤ rk x) (h14 : x ≠ 14) (hs : dSm s → rk s ≤ rk x) : SEq (sBU s nm cm op pa nu (x :: W) L) (sBU s nm cm op pa nu W (L ++ [(x, 0)])) := by
  unfold sBU pushS
  by_cases c : dSm s
  · rw [if_pos c, if_pos c, rel_pop (hs c) h14]
    exact Or.inl rfl
  rw [if_neg c, if_neg c]
  by_cases d : dCp s
  · have hk : rk s = 4 := by rcases d with d | d | d <;> subst d <;> decide
    rw [if_pos d, if_pos d, rel_pop (by omega) h14]
    exact Or.inl rfl
  · rw [if_neg d, if_neg d]
    exact Or.inr ⟨rfl, by dsimp only; omega, by dsimp only; omega⟩
theorem step4 : step (4, nm, cm, op, pa, nu, W, L) s v = if cm ≠ 0 ∧ ¬ dSm s then sBC s nm cm op pa (if s = 6 then v else nu) W L else sBU s nm cm op pa (if s = 6 then v else nu) W L := by
  unfold step sAct3 sAct4
  dsimp only
  rw [if_neg (show ¬ ((4 : Nat) = 3 ∧ s ≠ 5) from fun z => absurd z.1 (by omega))]
  by_cases c : cm ≠ 0 ∧ ¬ dSm s
  · rw [if_pos c, if_pos ⟨rfl, c⟩]; rfl
  · rw [if_neg c, if_neg (show ¬ ((4 : Nat) = 4 ∧ cm ≠ 0 ∧ ¬ dSm s) from fun z => c z.2)]; rfl
theorem eag4 (h4 : 4 ≤ rk x) (h14 : x ≠ 14) (hs : dSm s → rk s ≤ rk x) : SEq (step (4, nm, cm, op, pa, nu, x :: W, L) s v) (step (4, nm, cm, op, pa, nu, W, L ++ [(x, 0)]) s v) := by
  rw [step4, step4]
  by_cases c : cm ≠ 0 ∧ ¬ dSm s
  · rw [if_pos c, if_pos c]
    exact bc_eag (by omega) h14
  · rw [if_neg c, if_neg c]
    exact bu_eag h4 h14 hs
theorem step5 : step (5, nm, cm, op, pa, nu, W, L) s v = sBC s nm cm op pa (if s = 6 then v else nu) W L := by
  unfold step sAct3 sAct4
  dsimp only
  rw [if_neg (fun z => by omega), if_neg (fun z => by omega)]
  rfl
theorem eagN : SEq (step (5, nm, cm, op, pa, nu, 14 :: W, L) s v) (step (5, nm, cm, op - 1, pa, nu, W, L ++ [(14, 0)]) s v) := by
  rw [step5, step5]
  exact bc_eagN
/-- behind a comparison, no sum follows: the clause is over -/
theorem step45 (hcm : cm ≠ 0) (hs : ¬ dSm s) : step (4, nm, cm, op, pa, nu, W, L) s v = step (5, nm, cm, op, pa, nu, W, L) s v := by
  rw [step5, step4, if_pos ⟨hcm, hs⟩]
/-- a name that no 'of' follows -/
theorem step34 (hs : s ≠ 5) : step (3, nm, cm, op, pa, nu, W, L) s v = step (4, nm, cm, op, pa, nu, W, L ++ [(nm, 0)]) s v := by
  unfold step sAct3
  dsimp only
  rw [if_pos ⟨rfl, hs⟩, if_neg (show ¬ ((4 : Nat) = 3 ∧ s ≠ 5) from fun z => absurd z.1 (by omega))]
end EAG
