/-! WHAT THE SEATING'S SETS HOLD, bit by bit -/
section SF
variable {mem day tld blo wei : Nat → Int32} {d k : Int32} {N : Nat}
theorem sAll_bt : ∀ (m : Nat), m ≤ 32 → ∀ i, i < 32 → bt (sAll mem day tld blo d k N m) i = (decide (i < m) && decide (¬ sB mem day tld blo d k N i = -1)) := by
  intro m
  induction m with
  | zero => intro _ i _; rw [sAll, b_0]; simp
  | succ m ih =>
    intro hm i hi
    have h := ih (by omega) i hi
    rw [sAll]
    by_cases c : sB mem day tld blo d k N m = -1
    · rw [if_pos c, h]
      by_cases e : i = m
      · subst e; simp [c]
      · have : decide (i < m + 1) = decide (i < m) := decide_eq_decide.mpr (by omega)
        rw [this]
    · rw [if_neg c, b_or, h, b_one (by omega) hi]
      by_cases e : i = m
      · subst e; simp [c]
      · have : decide (i < m + 1) = decide (i < m) := decide_eq_decide.mpr (by omega)
        rw [this, decide_eq_false e, Bool.or_false]
theorem sOf_bt (b : Nat) : ∀ (m : Nat), m ≤ 32 → ∀ i, i < 32 → bt (sOf mem day tld blo d k N b m) i = (decide (i < m) && decide (sB mem day tld blo d k N i = nI b)) := by
  intro m
  induction m with
  | zero => intro _ i _; rw [sOf, b_0]; simp
  | succ m ih =>
    intro hm i hi
    have h := ih (by omega) i hi
    rw [sOf]
    by_cases c : sB mem day tld blo d k N m = nI b
    · rw [if_pos c, b_or, h, b_one (by omega) hi]
      by_cases e : i = m
      · subst e; simp [c]
      · have : decide (i < m + 1) = decide (i < m) := decide_eq_decide.mpr (by omega)
        rw [this, decide_eq_false e, Bool.or_false]
    · rw [if_neg c, h]
      by_cases e : i = m
      · subst e; simp [c]
      · have : decide (i < m + 1) = decide (i < m) := decide_eq_decide.mpr (by omega)
        rw [this]
theorem bst_big {M m : Nat} (hmem : ∀ i, i < N → ∃ mi, mi < M ∧ mem i = nI mi) (hM : M ≤ m) (hm : m < 2 ^ 31) : ∀ n, n ≤ N → bst mem day tld d k (nI m) n = -1 := by
  intro n
  induction n with
  | zero => intro _; rfl
  | succ n ih =>
    intro hn
    rw [bst, if_neg, ih (by omega)]
    intro c
    obtain ⟨mi, h1, h2⟩ := hmem n (by omega)
    rw [h2, nI_eq (by omega) hm] at c
    omega
theorem sB_big {M m : Nat} (hmem : ∀ i, i < N → ∃ mi, mi < M ∧ mem i = nI mi) (hM : M ≤ m) (hm : m < 2 ^ 31) : sB mem day tld blo d k N m = -1 := by
  unfold sB
  rw [if_pos (bst_big hmem hM hm N (Nat.le_refl _))]
/-- beyond the members nobody sits: the class's ten are the reference's members -/
theorem sAll_M {M : Nat} (hmem : ∀ i, i < N → ∃ mi, mi < M ∧ mem i = nI mi) : ∀ t, M + t ≤ 10 → sAll mem day tld blo d k N (M + t) = sAll mem day tld blo d k N M := by
  intro t
  induction t with
  | zero => intro _; rfl
  | succ t ih =>
    intro h
    rw [← Nat.add_assoc, sAll, if_pos (sB_big hmem (by omega) (by omega)), ih (by omega)]
theorem sMany_M {M : Nat} (hmem : ∀ i, i < N → ∃ mi, mi < M ∧ mem i = nI mi) : ∀ t, M + t ≤ 10 → sMany mem day tld blo d k N (M + t) = sMany mem day tld blo d k N M := by
  intro t
  induction t with
  | zero => intro _; rfl
  | succ t ih =>
    intro h
    rw [← Nat.add_assoc, sMany, if_pos (sB_big hmem (by omega) (by omega)), ih (by omega)]
theorem sSum_M {M : Nat} (hmem : ∀ i, i < N → ∃ mi, mi < M ∧ mem i = nI mi) : ∀ t, M + t ≤ 10 → sSum mem day tld blo wei d k N (M + t) = sSum mem day tld blo wei d k N M := by
  intro t
  induction t with
  | zero => intro _; rfl
  | succ t ih =>
    intro h
    rw [← Nat.add_assoc, sSum, if_pos (sB_big hmem (by omega) (by omega)), ih (by omega)]
/-- a bloc is -1 or one of six -/
theorem sB_rng (hn : N ≤ 200) (hblo : ∀ i, i < N → blo i = -1 ∨ ∃ b, b < 6 ∧ blo i = nI b) (m : Nat) : sB mem day tld blo d k N m = -1 ∨ ∃ b, b < 6 ∧ sB mem day tld blo d k N m = nI b := by
  unfold sB
  rcases bst_rng mem day tld d k (nI m) N with q | ⟨j, hj, ej⟩
  · rw [if_pos q]; exact Or.inl rfl
  · rw [if_neg (by rw [ej]; exact neg1_ne (by omega)), ej, nI_clamp (by omega)]
    exact hblo j hj
end SF
theorem isOf_s (x : Int32) {m : Nat} (hm : m < 32) : F_X12_isOf x (nI m) = some (if bt x m = true then 1 else 0) := by
  unfold F_X12_isOf
  by_cases h : bt x m = true
  · rw [if_pos ((shr1_1 x hm).mpr h), if_pos h]
  · rw [if_neg (fun q => h ((shr1_1 x hm).mp q)), if_neg h]
/-- the blocs that have somebody: the class's way -/
def cBlocs (mo : Nat → Int32) : Nat → Int32
  | 0 => 0
  | b + 1 => if mo b = 0 then cBlocs mo b else cBlocs mo b ||| ((1 : Int32) <<< (nI b &&& 31))
theorem blocs_4 (mo : Nat → Int32) : ∀ (fuel i : Nat), 6 - i < fuel → i ≤ 6 → F_X7_blocs_4 mo fuel (cBlocs mo i) (nI i) = some (cBlocs mo 6) := by
  intro fuel
  induction fuel with
  | zero => intro i h; omega
  | succ n ih =>
    intro i h hi
    rw [F_X7_blocs_4]
    rcases Nat.lt_or_ge i 6 with hlt | hge
    · have next := ih (i + 1) (by omega) (by omega)
      rw [if_neg (show ¬ (6 : Int32) ≤ nI i from nI_ge (b := 6) hlt (by omega)), gin, if_neg (nI_in hlt (by omega)), nI_clamp (by omega), nI_1]
      rw [cBlocs] at next
      by_cases c : mo i = 0
      · rw [if_pos c]; rw [if_pos c] at next; exact next
      · rw [if_neg c]; rw [if_neg c] at next; exact next
    · have e : i = 6 := by omega
      subst e
      rw [if_pos (show (6 : Int32) ≤ nI 6 from nI_le (a := 6) (Nat.le_refl _) (by omega))]
theorem blocs_s (mo : Nat → Int32) : F_X7_blocs mo = some (cBlocs mo 6) := by
  unfold F_X7_blocs
  have h := blocs_4 mo FU 0 (by unfold FU; omega) (by omega)
  rw [nI_0, cBlocs] at h
  exact h
theorem cBlocs_bt (mo : Nat → Int32) : ∀ b, b ≤ 32 → ∀ i, i < 32 → bt (cBlocs mo b) i = (decide (i < b) && decide (¬ mo i = 0)) := by
  intro b
  induction b with
  | zero => intro _ i _; rw [cBlocs, b_0]; simp
  | succ b ih =>
    intro hb i hi
    have h := ih (by omega) i hi
    rw [cBlocs]
    by_cases c : mo b = 0
    · rw [if_pos c, h]
      by_cases e : i = b
      · subst e; simp [c]
      · have : decide (i < b + 1) = decide (i < b) := decide_eq_decide.mpr (by omega)
        rw [this]
    · rw [if_neg c, b_or, h, b_one (by omega) hi]
      by_cases e : i = b
      · subst e; simp [c]
      · have : decide (i < b + 1) = decide (i < b) := decide_eq_decide.mpr (by omega)
        rw [this, decide_eq_false e, Bool.or_false]
/-- the reference's way -/
def mBlocs (al : Int32) (bl : Nat → Int32) : Nat → Int32
  | 0 => 0
  | m + 1 => if bt al m = true then mBlocs al bl m ||| ((1 : Int32) <<< (bl m &&& 31)) else mBlocs al bl m
theorem blocsIn_4 {M : Nat} (hM : M ≤ 10) (al : Int32) (bl : Nat → Int32) : ∀ (fuel i : Nat), M - i < fuel → i ≤ M → F_X12_blocsIn_4 al (nI M) bl fuel (mBlocs al bl i) (nI i) = some (mBlocs al bl M) := by
  intro fuel
  induction fuel with
  | zero => intro i h; omega
  | succ n ih =>
    intro i h hi
    rw [F_X12_blocsIn_4]
    rcases Nat.lt_or_ge i M with hlt | hge
    · have next := ih (i + 1) (by omega) (by omega)
      rw [if_neg (nI_ge hlt (by omega)), isOf_s al (by omega), Option.bind_some, nI_1]
      rw [mBlocs] at next
      by_cases c : bt al i = true
      · rw [if_pos c, if_neg one_ne, gin, if_neg (nI_in (by omega) (by omega)), nI_clamp (by omega)]
        rw [if_pos c] at next; exact next
      · rw [if_neg c, if_pos rfl]
        rw [if_neg c] at next; exact next
    · have e : i = M := by omega
      subst e
      rw [if_pos (nI_le (Nat.le_refl _) (by omega))]
theorem blocsIn_s {M : Nat} (hM : M ≤ 10) (al : Int32) (bl : Nat → Int32) : F_X12_blocsIn al (nI M) bl = some (mBlocs al bl M) := by
  unfold F_X12_blocsIn
  have h := blocsIn_4 hM al bl FU 0 (by unfold FU; omega) (by omega)
  rw [nI_0, mBlocs] at h
  exact h
theorem mBlocs_bt {al : Int32} {bl : Nat → Int32} : ∀ M, M ≤ 32 → (∀ m, m < M → bt al m = true → ∃ b, b < 6 ∧ bl m = nI b) → ∀ i, i < 32 → (bt (mBlocs al bl M) i = true ↔ ∃ m, m < M ∧ bt al m = true ∧ bl m = nI i) := by
  intro M
  induction M with
  | zero => intro _ _ i _; rw [mBlocs, b_0]; simp
  | succ M ih =>
    intro hM hb i hi
    have h := ih (by omega) (fun m hm => hb m (by omega)) i hi
    rw [mBlocs]
    by_cases c : bt al M = true
    · obtain ⟨b, hb1, hb2⟩ := hb M (by omega) c
      rw [if_pos c, b_or, Bool.or_eq_true, h, hb2, b_one (by omega) hi]
      constructor
      · rintro (⟨m, q1, q2, q3⟩ | q)
        · exact ⟨m, by omega, q2, q3⟩
        · have e : i = b := by simpa using q
          exact ⟨M, by omega, c, by rw [e]; exact hb2⟩
      · rintro ⟨m, q1, q2, q3⟩
        by_cases e : m = M
        · subst e
          rw [hb2, nI_eq (by omega) (by omega)] at q3
          right; simp [q3]
        · left; exact ⟨m, by omega, q2, q3⟩
    · rw [if_neg c, h]
      constructor
      · rintro ⟨m, q1, q2, q3⟩
        exact ⟨m, by omega, q2, q3⟩
      · rintro ⟨m, q1, q2, q3⟩
        by_cases e : m = M
        · subst e; exact absurd q2 c
        · exact ⟨m, by omega, q2, q3⟩
