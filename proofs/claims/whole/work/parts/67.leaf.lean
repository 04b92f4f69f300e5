/-! WHAT A RULE'S LEAVES ASK: both sides -/
/-- how many of a set, among the first m -/
def hSum (x : Int32) : Nat → Int32
  | 0 => 0
  | m + 1 => if bt x m = true then hSum x m + 1 else hSum x m
set_option maxRecDepth 100000 in
theorem bitCount_s : ∀ k, k < 1024 → F_J6_bitCount_0f7a4 (nI k) = some (hSum (nI k) 10) := by decide +kernel
theorem hSum_hi {x : Int32} {a : Nat} : ∀ t, (∀ i, a ≤ i → i < a + t → bt x i = false) → hSum x (a + t) = hSum x a := by
  intro t
  induction t with
  | zero => intro _; rfl
  | succ t ih =>
    intro h
    rw [← Nat.add_assoc, hSum, if_neg (by rw [h (a + t) (by omega) (by omega)]; decide)]
    exact ih (fun i h1 h2 => h i h1 (by omega))
theorem wSum_hi {w : Nat → Int32} {x : Int32} {a : Nat} : ∀ t, (∀ i, a ≤ i → i < a + t → bt x i = false) → wSum w x (a + t) = wSum w x a := by
  intro t
  induction t with
  | zero => intro _; rfl
  | succ t ih =>
    intro h
    rw [← Nat.add_assoc, wSum, if_neg (by rw [h (a + t) (by omega) (by omega)]; decide)]
    exact ih (fun i h1 h2 => h i h1 (by omega))
/-- the reference's counts: all, or those of a bloc -/
def hB (x b : Int32) (bl : Nat → Int32) : Nat → Int32
  | 0 => 0
  | m + 1 => if bt x m = true ∧ (b = -1 ∨ bl m = b) then hB x b bl m + 1 else hB x b bl m
def wB (x b : Int32) (bl w : Nat → Int32) : Nat → Int32
  | 0 => 0
  | m + 1 => if bt x m = true ∧ (b = -1 ∨ bl m = b) then wB x b bl w m + w m else wB x b bl w m
theorem headsOf_5 {M : Nat} (hM : M ≤ 10) (x b : Int32) (bl : Nat → Int32) : ∀ (fuel i : Nat), M - i < fuel → i ≤ M → F_X12_headsOf_5 x b (nI M) bl fuel (hB x b bl i) (nI i) = some (hB x b bl M) := by
  intro fuel
  induction fuel with
  | zero => intro i h; omega
  | succ n ih =>
    intro i h hi
    rw [F_X12_headsOf_5]
    rcases Nat.lt_or_ge i M with hlt | hge
    · have next := ih (i + 1) (by omega) (by omega)
      rw [hB] at next
      rw [if_neg (nI_ge hlt (by omega)), isOf_s _ (show i < 32 by omega)]
      simp only [Option.bind_some, nI_1, gin_n (show i < 10 by omega) (show 10 < 2 ^ 31 by omega), nI_clamp (show i < 2 ^ 31 by omega)]
      by_cases c1 : bt x i = true
      · simp only [if_pos c1, if_neg one_ne]
        by_cases c2 : b = -1
        · rw [if_pos (show bt x i = true ∧ (b = -1 ∨ bl i = b) from ⟨c1, Or.inl c2⟩)] at next
          rw [if_pos c2]; exact next
        · rw [if_neg c2]
          by_cases c3 : bl i = b
          · rw [if_pos (show bt x i = true ∧ (b = -1 ∨ bl i = b) from ⟨c1, Or.inr c3⟩)] at next
            rw [if_pos c3]; exact next
          · rw [if_neg (show ¬ (bt x i = true ∧ (b = -1 ∨ bl i = b)) from fun q => q.2.elim c2 c3)] at next
            rw [if_neg c3]; exact next
      · simp only [if_neg c1, if_true]
        rw [if_neg (show ¬ (bt x i = true ∧ (b = -1 ∨ bl i = b)) from fun q => c1 q.1)] at next
        exact next
    · have e : i = M := by omega
      subst e
      rw [if_pos (nI_le (Nat.le_refl _) (by omega))]
theorem headsOf_s {M : Nat} (hM : M ≤ 10) (x b : Int32) (bl : Nat → Int32) : F_X12_headsOf x b (nI M) bl = some (hB x b bl M) := by
  unfold F_X12_headsOf
  have h := headsOf_5 hM x b bl FU 0 (by unfold FU; omega) (by omega)
  rw [nI_0, hB] at h
  exact h
theorem mweightOf_5 {M : Nat} (hM : M ≤ 10) (x b : Int32) (bl w : Nat → Int32) : ∀ (fuel i : Nat), M - i < fuel → i ≤ M → F_X12_weightOf_5 x b (nI M) bl w fuel (wB x b bl w i) (nI i) = some (wB x b bl w M) := by
  intro fuel
  induction fuel with
  | zero => intro i h; omega
  | succ n ih =>
    intro i h hi
    rw [F_X12_weightOf_5]
    unfold F_X12_weightOf_40
    rcases Nat.lt_or_ge i M with hlt | hge
    · have next := ih (i + 1) (by omega) (by omega)
      rw [wB] at next
      rw [if_neg (nI_ge hlt (by omega)), isOf_s _ (show i < 32 by omega)]
      simp only [Option.bind_some, nI_1, gin_n (show i < 10 by omega) (show 10 < 2 ^ 31 by omega), nI_clamp (show i < 2 ^ 31 by omega)]
      by_cases c1 : bt x i = true
      · simp only [if_pos c1, if_neg one_ne]
        by_cases c2 : b = -1
        · rw [if_pos (show bt x i = true ∧ (b = -1 ∨ bl i = b) from ⟨c1, Or.inl c2⟩)] at next
          rw [if_pos c2]; exact next
        · rw [if_neg c2]
          by_cases c3 : bl i = b
          · rw [if_pos (show bt x i = true ∧ (b = -1 ∨ bl i = b) from ⟨c1, Or.inr c3⟩)] at next
            rw [if_pos c3]; exact next
          · rw [if_neg (show ¬ (bt x i = true ∧ (b = -1 ∨ bl i = b)) from fun q => q.2.elim c2 c3)] at next
            rw [if_neg c3]; exact next
      · simp only [if_neg c1, if_true]
        rw [if_neg (show ¬ (bt x i = true ∧ (b = -1 ∨ bl i = b)) from fun q => c1 q.1)] at next
        exact next
    · have e : i = M := by omega
      subst e
      rw [if_pos (nI_le (Nat.le_refl _) (by omega))]
theorem mweightOf_s {M : Nat} (hM : M ≤ 10) (x b : Int32) (bl w : Nat → Int32) : F_X12_weightOf x b (nI M) bl w = some (wB x b bl w M) := by
  unfold F_X12_weightOf
  have h := mweightOf_5 hM x b bl w FU 0 (by unfold FU; omega) (by omega)
  rw [nI_0, wB] at h
  exact h
theorem hB_all (x : Int32) (bl : Nat → Int32) : ∀ M, hB x (-1) bl M = hSum x M := by
  intro M
  induction M with
  | zero => rfl
  | succ M ih =>
    rw [hB, hSum, ih]
    by_cases c : bt x M = true
    · rw [if_pos ⟨c, Or.inl rfl⟩, if_pos c]
    · rw [if_neg (fun q => c q.1), if_neg c]
theorem wB_all (x : Int32) (bl w w' : Nat → Int32) : ∀ M, (∀ m, m < M → w m = w' m) → wB x (-1) bl w M = wSum w' x M := by
  intro M
  induction M with
  | zero => intro _; rfl
  | succ M ih =>
    intro h
    rw [wB, wSum, ih (fun m hm => h m (by omega)), h M (by omega)]
    by_cases c : bt x M = true
    · rw [if_pos ⟨c, Or.inl rfl⟩, if_pos c]
    · rw [if_neg (fun q => c q.1), if_neg c]
/-- with a bloc's set: y has just those of the bloc -/
theorem hB_bloc (x y b : Int32) (bl : Nat → Int32) (hb : ¬ b = -1) : ∀ M, (∀ m, m < M → (bt y m = true ↔ bl m = b)) → hB x b bl M = hSum (x &&& y) M := by
  intro M
  induction M with
  | zero => intro _; rfl
  | succ M ih =>
    intro h
    rw [hB, hSum, ih (fun m hm => h m (by omega)), b_and]
    by_cases c : bt x M = true ∧ bl M = b
    · rw [if_pos ⟨c.1, Or.inr c.2⟩, if_pos (by rw [c.1, (h M (by omega)).mpr c.2]; rfl)]
    · rw [if_neg (fun q => c ⟨q.1, q.2.elim (fun e => absurd e hb) id⟩), if_neg]
      intro q
      rw [Bool.and_eq_true] at q
      exact c ⟨q.1, (h M (by omega)).mp q.2⟩
theorem wB_bloc (x y b : Int32) (bl w w' : Nat → Int32) (hb : ¬ b = -1) : ∀ M, (∀ m, m < M → (bt y m = true ↔ bl m = b)) → (∀ m, m < M → w m = w' m) → wB x b bl w M = wSum w' (x &&& y) M := by
  intro M
  induction M with
  | zero => intro _ _; rfl
  | succ M ih =>
    intro h hw
    rw [wB, wSum, ih (fun m hm => h m (by omega)) (fun m hm => hw m (by omega)), b_and, hw M (by omega)]
    by_cases c : bt x M = true ∧ bl M = b
    · rw [if_pos ⟨c.1, Or.inr c.2⟩, if_pos (by rw [c.1, (h M (by omega)).mpr c.2]; rfl)]
    · rw [if_neg (fun q => c ⟨q.1, q.2.elim (fun e => absurd e hb) id⟩), if_neg]
      intro q
      rw [Bool.and_eq_true] at q
      exact c ⟨q.1, (h M (by omega)).mp q.2⟩
