/-! the class's next token -/
def decN (T : Nat → Nat) : Nat → Nat → Nat → Nat
  | 0, _, a => a
  | k + 1, i, a => decN T k (i + 1) (a * 10 + (T i - 48))
theorem isDig_iff {c : Nat} : isDig c = true ↔ (48 ≤ c ∧ c ≤ 57) := by
  unfold isDig
  rw [Bool.and_eq_true, decide_eq_true_eq, decide_eq_true_eq]
theorem decN_lt (T : Nat → Nat) : ∀ k i a, (∀ j, i ≤ j → j < i + k → isDig (T j) = true) → decN T k i a < (a + 1) * 10 ^ k := by
  intro k
  induction k with
  | zero => intro i a _; rw [decN]; omega
  | succ k ih =>
    intro i a h
    have h0 := isDig_iff.mp (h i (Nat.le_refl _) (by omega))
    have := ih (i + 1) (a * 10 + (T i - 48)) (fun j a b => h j (by omega) (by omega))
    rw [decN]
    refine Nat.lt_of_lt_of_le this ?_
    rw [Nat.pow_succ, Nat.mul_comm (10 ^ k) 10, ← Nat.mul_assoc]
    exact Nat.mul_le_mul_right _ (by omega)
/-- the token from i on: its place, its end, its sign, its number -/
def tP (T : Nat → Nat) (n i : Nat) : Nat := scn isBlk T (n - i) i
def tE (T : Nat → Nat) (n i : Nat) : Nat := if n ≤ tP T n i then tP T n i else if isLet (T (tP T n i)) = true then scn isLet T (n - tP T n i) (tP T n i) else if isDig (T (tP T n i)) = true then scn isDig T (n - tP T n i) (tP T n i) else tP T n i + 1
def tS (T : Nat → Nat) (n i : Nat) : Nat := if n ≤ tP T n i then 0 else if isLet (T (tP T n i)) = true then wsg T (tP T n i) (tE T n i) else if isDig (T (tP T n i)) = true then (if tE T n i - tP T n i ≤ 4 then 6 else 1) else mkS (T (tP T n i))
def tV (T : Nat → Nat) (n i : Nat) : Nat := decN T (tE T n i - tP T n i) (tP T n i) 0
theorem mkS_ne (c : Nat) : mkS c ≠ 6 ∧ mkS c ≠ 0 := by
  unfold mkS
  repeat' split
  all_goals exact ⟨by decide, by decide⟩
theorem wsg_ne (T : Nat → Nat) (p e : Nat) : wsg T p e ≠ 6 ∧ wsg T p e ≠ 0 := by
  unfold wsg
  repeat' split
  all_goals exact ⟨by decide, by decide⟩
theorem tP_le {T : Nat → Nat} {n i : Nat} (hi : i ≤ n) : i ≤ tP T n i ∧ tP T n i ≤ n := by
  have := scn_le isBlk T (n - i) i
  unfold tP
  omega
theorem tE_le {T : Nat → Nat} {n i : Nat} (hi : i ≤ n) : tP T n i ≤ tE T n i ∧ tE T n i ≤ n := by
  have h0 := tP_le (T := T) hi
  have h1 := scn_le isLet T (n - tP T n i) (tP T n i)
  have h2 := scn_le isDig T (n - tP T n i) (tP T n i)
  unfold tE
  split
  · omega
  split
  · omega
  split <;> omega
theorem tS_0 {T : Nat → Nat} {n i : Nat} : tS T n i = 0 ↔ n ≤ tP T n i := by
  unfold tS
  by_cases c : n ≤ tP T n i
  · rw [if_pos c]; exact ⟨fun _ => c, fun _ => rfl⟩
  rw [if_neg c]
  refine ⟨fun h => ?_, fun h => absurd h c⟩
  exfalso
  by_cases c1 : isLet (T (tP T n i)) = true
  · rw [if_pos c1] at h; exact (wsg_ne _ _ _).2 h
  rw [if_neg c1] at h
  by_cases c2 : isDig (T (tP T n i)) = true
  · rw [if_pos c2] at h
    by_cases c3 : tE T n i - tP T n i ≤ 4
    · rw [if_pos c3] at h; omega
    · rw [if_neg c3] at h; omega
  · rw [if_neg c2] at h; exact (mkS_ne _).2 h
theorem scn_step {P : Nat → Bool} {T : Nat → Nat} {n p : Nat} (h : p < n) (hP : P (T p) = true) : scn P T (n - p) p = scn P T (n - (p + 1)) (p + 1) := by
  rw [show n - p = (n - (p + 1)) + 1 by omega, scn, if_pos hP]
theorem tE_lt {T : Nat → Nat} {n i : Nat} (h : tS T n i ≠ 0) : tP T n i < tE T n i := by
  have hp : ¬ n ≤ tP T n i := fun q => h (tS_0.mpr q)
  unfold tE
  rw [if_neg hp]
  by_cases c1 : isLet (T (tP T n i)) = true
  · rw [if_pos c1, scn_step (by omega) c1]
    have := scn_le isLet T (n - (tP T n i + 1)) (tP T n i + 1)
    omega
  rw [if_neg c1]
  by_cases c2 : isDig (T (tP T n i)) = true
  · rw [if_pos c2, scn_step (by omega) c2]
    have := scn_le isDig T (n - (tP T n i + 1)) (tP T n i + 1)
    omega
  · rw [if_neg c2]; omega
theorem tS_6 {T : Nat → Nat} {n i : Nat} (h : tS T n i = 6) : ¬ n ≤ tP T n i ∧ ¬ isLet (T (tP T n i)) = true ∧ isDig (T (tP T n i)) = true ∧ tE T n i - tP T n i ≤ 4 := by
  unfold tS at h
  by_cases c : n ≤ tP T n i
  · rw [if_pos c] at h; omega
  rw [if_neg c] at h
  by_cases c1 : isLet (T (tP T n i)) = true
  · rw [if_pos c1] at h; exact absurd h (wsg_ne _ _ _).1
  rw [if_neg c1] at h
  by_cases c2 : isDig (T (tP T n i)) = true
  · rw [if_pos c2] at h
    by_cases c3 : tE T n i - tP T n i ≤ 4
    · exact ⟨c, c1, c2, c3⟩
    · rw [if_neg c3] at h; omega
  · rw [if_neg c2] at h; exact absurd h (mkS_ne _).1
theorem tV_lt {T : Nat → Nat} {n i : Nat} (h : tS T n i = 6) : tV T n i < 10000 := by
  obtain ⟨c, c1, c2, c3⟩ := tS_6 h
  unfold tV
  have hd : ∀ j, tP T n i ≤ j → j < tP T n i + (tE T n i - tP T n i) → isDig (T j) = true := by
    intro j a b
    have e : tE T n i = scn isDig T (n - tP T n i) (tP T n i) := by unfold tE; rw [if_neg c, if_neg c1, if_pos c2]
    have := scn_le isDig T (n - tP T n i) (tP T n i)
    exact scn_in isDig T _ _ j a (by rw [← e]; omega)
  have := decN_lt T _ _ 0 hd
  have h2 : 10 ^ (tE T n i - tP T n i) ≤ 10 ^ 4 := Nat.pow_le_pow_right (by omega) c3
  omega
section TQ
variable {r : Nat → Int32} {T : Nat → Nat} {n : Nat}
theorem readNumber_loop (h : TxtIs r T n) {p : Nat} (sg : Int32) : ∀ k i f a, p ≤ i → i + k = n → k < f → F_X5_readNumber_5 (nI n) (nI p) r f (nI i) (nI a) sg = some (nI (scn isDig T k i), nI (decN T (scn isDig T k i - i) i a), nI (if scn isDig T k i - p ≤ 4 then 6 else 1)) := by
  have hn := h.1
  have last : ∀ e a, p ≤ e → e ≤ n → F_X5_readNumber_78 (nI n) (nI p) r (nI e) (nI a) sg = some (nI e, nI a, nI (if e - p ≤ 4 then 6 else 1)) := by
    intro e a hp he
    unfold F_X5_readNumber_78
    rw [pk_sub hp, show (4 : Int32) = nI 4 from rfl]
    by_cases c : e - p ≤ 4
    · rw [if_neg (nI_nlt c (by omega)), if_pos c]; rfl
    · rw [if_pos (nI_lt (by omega) (by omega)), if_neg c]; rfl
  intro k
  induction k with
  | zero =>
    intro i f a hp e hf
    obtain ⟨f, rfl⟩ : ∃ g, f = g + 1 := ⟨f - 1, by omega⟩
    rw [F_X5_readNumber_5, if_pos (nI_le (show n ≤ i by omega) (by omega)), last i a hp (by omega), scn, Nat.sub_self]
    rfl
  | succ k ih =>
    intro i f a hp e hf
    obtain ⟨f, rfl⟩ : ∃ g, f = g + 1 := ⟨f - 1, by omega⟩
    obtain ⟨hr, hc⟩ := h.2 i (by omega)
    rw [F_X5_readNumber_5, if_neg (nI_ge (show i < n by omega) (by omega)), if_neg (show ¬ (400 : Int32) ≤ nI i from nI_ge (b := 400) (by omega) (by omega))]
    simp only [gin_n (show i < 400 by omega) (show 400 < 2 ^ 31 by omega), nI_clamp (show i < 2 ^ 31 by omega), hr, nI_1]
    rw [dig5 _ hc, Option.bind_some, ite10, scn]
    by_cases c : isDig (T i) = true
    · rw [if_pos c, if_pos c]
      have hd := isDig_iff.mp c
      rw [show (10 : Int32) = nI 10 from rfl, show (48 : Int32) = nI 48 from rfl, pk_mul, nI_add, pk_sub (by omega), show a * 10 + T i - 48 = a * 10 + (T i - 48) by omega, ih (i + 1) f _ (by omega) (by omega) (by omega)]
      have := scn_le isDig T k (i + 1)
      rw [show scn isDig T k (i + 1) - i = (scn isDig T k (i + 1) - (i + 1)) + 1 by omega, decN]
    · rw [if_neg c, if_neg c, last i a hp (by omega), Nat.sub_self]
      rfl
theorem nextToken_s (h : TxtIs r T n) {i : Nat} (hi : i ≤ n) (nu pl sg : Int32) : ∃ nu', F_X5_nextToken (nI i) (nI n) nu pl sg r = some (nI (tE T n i), nu', nI (tP T n i), nI (tS T n i)) ∧ (tS T n i = 6 → nu' = nI (tV T n i)) ∧ (tS T n i ≠ 6 → tS T n i ≠ 1 → nu' = nu) := by
  have hn := h.1
  have hp := tP_le (T := T) hi
  have he := tE_le (T := T) hi
  unfold F_X5_nextToken
  rw [skip5 h nu pl sg (n - i) i FU (by omega) (by show n - i < 100000; omega), show scn isBlk T (n - i) i = tP T n i from rfl]
  unfold F_X5_nextToken_62
  by_cases c : n ≤ tP T n i
  · rw [if_pos (nI_le c (by omega))]
    refine ⟨nu, ?_, fun q => absurd c (tS_6 q).1, fun _ _ => rfl⟩
    rw [tS_0.mpr c]
    unfold tE
    rw [if_pos c]
    rfl
  rw [if_neg (nI_ge (show tP T n i < n by omega) (by omega)), if_pos (show nI (tP T n i) < (400 : Int32) from nI_lt (b := 400) (by omega) (by omega))]
  obtain ⟨hr, hc⟩ := h.2 (tP T n i) (by omega)
  simp only [gin_n (show tP T n i < 400 by omega) (show 400 < 2 ^ 31 by omega), nI_clamp (show tP T n i < 2 ^ 31 by omega), hr, nI_1]
  rw [let5 _ hc, Option.bind_some, ite10, dig5 _ hc, Option.bind_some, ite10, mark8 _ hc, Option.bind_some]
  by_cases c1 : isLet (T (tP T n i)) = true
  · rw [if_pos c1]
    unfold F_X5_readWord
    rw [readWord_loop h sg (n - tP T n i) (tP T n i) FU (Nat.le_refl _) (by omega) (by show _ < 100000; omega), Option.bind_some]
    have e : tE T n i = scn isLet T (n - tP T n i) (tP T n i) := by unfold tE; rw [if_neg c, if_pos c1]
    refine ⟨nu, ?_, fun q => absurd c1 (tS_6 q).2.1, fun _ _ => rfl⟩
    have es : tS T n i = wsg T (tP T n i) (tE T n i) := by unfold tS; rw [if_neg c, if_pos c1]
    rw [es, e]
  rw [if_neg c1]
  by_cases c2 : isDig (T (tP T n i)) = true
  · rw [if_pos c2]
    unfold F_X5_readNumber
    rw [show (0 : Int32) = nI 0 from rfl, readNumber_loop h sg (n - tP T n i) (tP T n i) FU 0 (Nat.le_refl _) (by omega) (by show _ < 100000; omega), Option.bind_some]
    have e : tE T n i = scn isDig T (n - tP T n i) (tP T n i) := by unfold tE; rw [if_neg c, if_neg c1, if_pos c2]
    have es : tS T n i = (if tE T n i - tP T n i ≤ 4 then 6 else 1) := by unfold tS; rw [if_neg c, if_neg c1, if_pos c2]
    refine ⟨nI (tV T n i), ?_, fun _ => rfl, fun a b => by
      exfalso
      by_cases c3 : tE T n i - tP T n i ≤ 4
      · rw [if_pos c3] at es; exact a es
      · rw [if_neg c3] at es; exact b es⟩
    rw [es]
    unfold tV
    rw [e]
  · rw [if_neg c2]
    refine ⟨nu, ?_, fun q => absurd (tS_6 q).2.2.1 c2, fun _ _ => rfl⟩
    have e : tE T n i = tP T n i + 1 := by unfold tE; rw [if_neg c, if_neg c1, if_neg c2]
    have es : tS T n i = mkS (T (tP T n i)) := by unfold tS; rw [if_neg c, if_neg c1, if_neg c2]
    rw [es, e]
end TQ
