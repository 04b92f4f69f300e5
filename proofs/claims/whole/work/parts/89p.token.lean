/-! tokens: what stands on the tape, and the class's sign of it -/
def isLet (c : Nat) : Bool := (decide (97 ≤ c) && decide (c ≤ 122)) || (decide (65 ≤ c) && decide (c ≤ 90))
def isDig (c : Nat) : Bool := decide (48 ≤ c) && decide (c ≤ 57)
def isBlk (c : Nat) : Bool := decide (c = 32) || decide (c = 10)
def mkS (c : Nat) : Nat := if c = 59 then 2 else if c = 40 then 3 else if c = 41 then 4 else if c = 43 then 15 else if c = 45 then 16 else if c = 42 then 17 else if c = 60 then 18 else if c = 61 then 19 else if c = 62 then 20 else 1
theorem let5 : ∀ c, c < 256 → F_X5_isLetter (nI c) = some (if isLet c = true then 1 else 0) := by decide +kernel
theorem dig5 : ∀ c, c < 256 → F_X5_isDigit (nI c) = some (if isDig c = true then 1 else 0) := by decide +kernel
theorem mark8 : ∀ c, c < 256 → F_X8_ofMark (nI c) = some (nI (mkS c)) := by decide +kernel
theorem let12 : ∀ c, c < 256 → F_X12_isLetter (nI c) = some (if isLet c = true then 1 else 0) := by decide +kernel
theorem dig12 : ∀ c, c < 256 → F_X12_isDigit (nI c) = some (if isDig c = true then 1 else 0) := by decide +kernel
theorem mark12 : ∀ c, c < 256 → F_X12_isMarkSign (nI c) = some (if mkS c = 1 then 0 else 1) := by decide +kernel
theorem isBlk_iff {c : Nat} : isBlk c = true ↔ (c = 32 ∨ c = 10) := by
  unfold isBlk
  rw [Bool.or_eq_true, decide_eq_true_eq, decide_eq_true_eq]
/-- how far all is of a kind -/
def scn (P : Nat → Bool) (T : Nat → Nat) : Nat → Nat → Nat
  | 0, i => i
  | k + 1, i => if P (T i) = true then scn P T k (i + 1) else i
theorem scn_le (P : Nat → Bool) (T : Nat → Nat) : ∀ k i, i ≤ scn P T k i ∧ scn P T k i ≤ i + k := by
  intro k
  induction k with
  | zero => intro i; exact ⟨Nat.le_refl _, Nat.le_refl _⟩
  | succ k ih =>
    intro i
    rw [scn]
    by_cases c : P (T i) = true
    · rw [if_pos c]
      have := ih (i + 1)
      omega
    · rw [if_neg c]; omega
theorem scn_in (P : Nat → Bool) (T : Nat → Nat) : ∀ k i j, i ≤ j → j < scn P T k i → P (T j) = true := by
  intro k
  induction k with
  | zero => intro i j a b; rw [scn] at b; omega
  | succ k ih =>
    intro i j a b
    rw [scn] at b
    by_cases c : P (T i) = true
    · rw [if_pos c] at b
      by_cases e : i = j
      · subst e; exact c
      · exact ih (i + 1) j (by omega) b
    · rw [if_neg c] at b; omega
theorem scn_end (P : Nat → Bool) (T : Nat → Nat) : ∀ k i, scn P T k i < i + k → ¬ P (T (scn P T k i)) = true := by
  intro k
  induction k with
  | zero => intro i h; rw [scn] at h; omega
  | succ k ih =>
    intro i h
    rw [scn] at h ⊢
    by_cases c : P (T i) = true
    · rw [if_pos c] at h ⊢
      exact ih (i + 1) (by omega)
    · rw [if_neg c]; exact c
/-- a row holds the text T of n bytes -/
def TxtIs (r : Nat → Int32) (T : Nat → Nat) (n : Nat) : Prop := n ≤ 400 ∧ ∀ j, j < n → r j = nI (T j) ∧ T j < 256
/-- the words, in the class's order -/
def wbN : List (List Nat) := [[111, 114], [97, 110, 100], [110, 111, 116], [104, 97, 115], [111, 102], [104, 101, 97, 100, 115], [119, 101, 105, 103, 104, 116], [109, 101, 109, 98, 101, 114, 115], [97, 108, 108]]
def wcN (w j : Nat) : Nat := (wbN.getD w []).getD j 0
theorem wch_n : ∀ w, w < 9 → ∀ j, j < 7 → wch w j = nI (wcN w j) ∧ wcN w j < 256 := by decide +kernel
theorem wlen_le : ∀ w, w < 9 → wlen w ≤ 7 ∧ 2 ≤ wlen w := by decide +kernel
abbrev wIs (T : Nat → Nat) (p e w : Nat) : Prop := e - p = wlen w ∧ ∀ j, j < wlen w → T (p + j) = wcN w j
def wsg (T : Nat → Nat) (p e : Nat) : Nat := if wIs T p e 0 then 22 else if wIs T p e 1 then 21 else if wIs T p e 2 then 14 else if wIs T p e 3 then 11 else if wIs T p e 4 then 5 else if wIs T p e 5 then 7 else if wIs T p e 6 then 8 else if wIs T p e 7 then 9 else if wIs T p e 8 then 10 else 1
section TK5
variable {r : Nat → Int32} {T : Nat → Nat} {n : Nat}
theorem skip5 (h : TxtIs r T n) (nu pl sg : Int32) : ∀ k i f, i + k = n → k < f → F_X5_nextToken_0 (nI n) r f (nI i) nu pl sg = F_X5_nextToken_62 (nI n) r (nI (scn isBlk T k i)) nu pl sg := by
  have hn := h.1
  intro k
  induction k with
  | zero =>
    intro i f e hf
    obtain ⟨f, rfl⟩ : ∃ g, f = g + 1 := ⟨f - 1, by omega⟩
    rw [F_X5_nextToken_0, if_pos (nI_le (show n ≤ i by omega) (by omega))]
    rfl
  | succ k ih =>
    intro i f e hf
    obtain ⟨f, rfl⟩ : ∃ g, f = g + 1 := ⟨f - 1, by omega⟩
    obtain ⟨hr, hc⟩ := h.2 i (by omega)
    rw [F_X5_nextToken_0, if_neg (nI_ge (show i < n by omega) (by omega)), if_neg (show ¬ (400 : Int32) ≤ nI i from nI_ge (b := 400) (by omega) (by omega))]
    simp only [gin_n (show i < 400 by omega) (show 400 < 2 ^ 31 by omega), nI_clamp (show i < 2 ^ 31 by omega), hr, nI_1]
    rw [show (32 : Int32) = nI 32 from rfl, show (10 : Int32) = nI 10 from rfl]
    simp only [nI_eq (show T i < 2 ^ 31 by omega) (show 32 < 2 ^ 31 by omega), nI_eq (show T i < 2 ^ 31 by omega) (show 10 < 2 ^ 31 by omega)]
    rw [scn]
    by_cases c1 : T i = 32
    · rw [if_pos c1, ih (i + 1) f (by omega) (by omega), if_pos (isBlk_iff.mpr (Or.inl c1))]
    · by_cases c2 : T i = 10
      · rw [if_neg c1, if_pos c2, ih (i + 1) f (by omega) (by omega), if_pos (isBlk_iff.mpr (Or.inr c2))]
      · rw [if_neg c1, if_neg c2, if_neg (fun q => (isBlk_iff.mp q).elim c1 c2)]
theorem isWord_loop (h : TxtIs r T n) {w p : Nat} (hw : w < 9) (hp : p + wlen w ≤ n) : ∀ k i f, i + k = wlen w → k < f → F_X5_isWord_30 w (nI p) r f (nI i) = some (if ∀ j, j < wlen w → i ≤ j → T (p + j) = wcN w j then 1 else 0) := by
  have hn := h.1
  have hl := wlen_le w hw
  intro k
  induction k with
  | zero =>
    intro i f e hf
    obtain ⟨f, rfl⟩ : ∃ g, f = g + 1 := ⟨f - 1, by omega⟩
    rw [F_X5_isWord_30, if_pos (show Int32.ofNat (wlen w) ≤ nI i from nI_le (show wlen w ≤ i by omega) (by omega)), if_pos (fun j b a => by omega)]
  | succ k ih =>
    intro i f e hf
    obtain ⟨f, rfl⟩ : ∃ g, f = g + 1 := ⟨f - 1, by omega⟩
    obtain ⟨hr, hc⟩ := h.2 (p + i) (by omega)
    obtain ⟨hw1, hw2⟩ := wch_n w hw i (by omega)
    rw [F_X5_isWord_30, if_neg (show ¬ Int32.ofNat (wlen w) ≤ nI i from nI_ge (show i < wlen w by omega) (by omega)), nI_add, gin_n (show p + i < 400 by omega) (by omega), nI_clamp (show p + i < 2 ^ 31 by omega), nI_clamp (show i < 2 ^ 31 by omega), hr, hw1, nI_1]
    simp only [nI_eq (show T (p + i) < 2 ^ 31 by omega) (show wcN w i < 2 ^ 31 by omega)]
    by_cases c : T (p + i) = wcN w i
    · rw [if_pos c, ih (i + 1) f (by omega) (by omega)]
      by_cases d : ∀ j, j < wlen w → i + 1 ≤ j → T (p + j) = wcN w j
      · rw [if_pos d, if_pos (fun j b a => by
          by_cases q : i = j
          · subst q; exact c
          · exact d j b (by omega))]
      · rw [if_neg d, if_neg (fun q => d (fun j b a => q j b (by omega)))]
    · rw [if_neg c, if_neg (fun q => c (q i (by omega) (Nat.le_refl _)))]
theorem isWord_s (h : TxtIs r T n) {w p e : Nat} (hw : w < 9) (hp : p ≤ e) (he : e ≤ n) : F_X5_isWord w (nI e) (nI p) r = some (if wIs T p e w then 1 else 0) := by
  have hn := h.1
  have hl := wlen_le w hw
  unfold F_X5_isWord wIs
  rw [pk_sub hp, show Int32.ofNat (wlen w) = nI (wlen w) from rfl]
  simp only [nI_eq (show e - p < 2 ^ 31 by omega) (show wlen w < 2 ^ 31 by omega)]
  by_cases c : e - p = wlen w
  · rw [if_pos c, if_pos (show nI e ≤ (400 : Int32) from nI_le (b := 400) (by omega) (by omega)), show (0 : Int32) = nI 0 from rfl, isWord_loop h hw (by omega) (wlen w) 0 FU (by omega) (by show wlen w < 100000; omega)]
    by_cases d : ∀ j, j < wlen w → T (p + j) = wcN w j
    · rw [if_pos (fun j b _ => d j b), if_pos ⟨c, d⟩]
    · rw [if_neg (fun q => d (fun j b => q j b (Nat.zero_le _))), if_neg (fun q => d q.2)]
      rfl
  · rw [if_neg c, if_neg (fun q => c q.1)]
theorem ite10 {c : Prop} [Decidable c] {α : Type} (x y : α) : (if (if c then (1 : Int32) else 0) = 0 then x else y) = if c then y else x := by
  by_cases h : c
  · simp only [if_pos h, if_neg one_ne]
  · simp only [if_neg h, if_true]
theorem readWord_e (h : TxtIs r T n) {p e : Nat} (hp : p ≤ e) (he : e ≤ n) (sg : Int32) : F_X5_readWord_49 (nI n) (nI p) r (nI e) sg = some (nI e, nI (wsg T p e)) := by
  unfold F_X5_readWord_49 wsg
  rw [isWord_s h (w := 0) (by omega) hp he, isWord_s h (w := 1) (by omega) hp he, isWord_s h (w := 2) (by omega) hp he, isWord_s h (w := 3) (by omega) hp he, isWord_s h (w := 4) (by omega) hp he, isWord_s h (w := 5) (by omega) hp he, isWord_s h (w := 6) (by omega) hp he, isWord_s h (w := 7) (by omega) hp he, isWord_s h (w := 8) (by omega) hp he]
  simp only [Option.bind_some, ite10]
  by_cases c0 : wIs T p e 0
  · simp only [if_pos c0]; rfl
  by_cases c1 : wIs T p e 1
  · simp only [if_neg c0, if_pos c1]; rfl
  by_cases c2 : wIs T p e 2
  · simp only [if_neg c0, if_neg c1, if_pos c2]; rfl
  by_cases c3 : wIs T p e 3
  · simp only [if_neg c0, if_neg c1, if_neg c2, if_pos c3]; rfl
  by_cases c4 : wIs T p e 4
  · simp only [if_neg c0, if_neg c1, if_neg c2, if_neg c3, if_pos c4]; rfl
  by_cases c5 : wIs T p e 5
  · simp only [if_neg c0, if_neg c1, if_neg c2, if_neg c3, if_neg c4, if_pos c5]; rfl
  by_cases c6 : wIs T p e 6
  · simp only [if_neg c0, if_neg c1, if_neg c2, if_neg c3, if_neg c4, if_neg c5, if_pos c6]; rfl
  by_cases c7 : wIs T p e 7
  · simp only [if_neg c0, if_neg c1, if_neg c2, if_neg c3, if_neg c4, if_neg c5, if_neg c6, if_pos c7]; rfl
  by_cases c8 : wIs T p e 8
  · simp only [if_neg c0, if_neg c1, if_neg c2, if_neg c3, if_neg c4, if_neg c5, if_neg c6, if_neg c7, if_pos c8]; rfl
  · simp only [if_neg c0, if_neg c1, if_neg c2, if_neg c3, if_neg c4, if_neg c5, if_neg c6, if_neg c7, if_neg c8]; rfl
theorem readWord_loop (h : TxtIs r T n) {p : Nat} (sg : Int32) : ∀ k i f, p ≤ i → i + k = n → k < f → F_X5_readWord_0 (nI n) (nI p) r f (nI i) sg = some (nI (scn isLet T k i), nI (wsg T p (scn isLet T k i))) := by
  have hn := h.1
  intro k
  induction k with
  | zero =>
    intro i f hp e hf
    obtain ⟨f, rfl⟩ : ∃ g, f = g + 1 := ⟨f - 1, by omega⟩
    rw [F_X5_readWord_0, if_pos (nI_le (show n ≤ i by omega) (by omega)), readWord_e h hp (by omega)]
    rfl
  | succ k ih =>
    intro i f hp e hf
    obtain ⟨f, rfl⟩ : ∃ g, f = g + 1 := ⟨f - 1, by omega⟩
    obtain ⟨hr, hc⟩ := h.2 i (by omega)
    rw [F_X5_readWord_0, if_neg (nI_ge (show i < n by omega) (by omega)), if_neg (show ¬ (400 : Int32) ≤ nI i from nI_ge (b := 400) (by omega) (by omega)), gin_n (show i < 400 by omega) (by omega), nI_clamp (show i < 2 ^ 31 by omega), hr, let5 _ hc, Option.bind_some, ite10, nI_1, scn]
    by_cases c : isLet (T i) = true
    · rw [if_pos c, if_pos c, ih (i + 1) f (by omega) (by omega) (by omega)]
    · rw [if_neg c, if_neg c, readWord_e h hp (by omega)]
end TK5
