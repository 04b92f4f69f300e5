/-! the reference's next token -/
def wdN : List Nat := [32, 104, 101, 97, 100, 115, 32, 119, 101, 105, 103, 104, 116, 32, 109, 101, 109, 98, 101, 114, 115, 32, 97, 108, 108, 32, 111, 102, 32, 104, 97, 115, 32, 111, 114, 32, 97, 110, 100, 32, 110, 111, 116, 32]
def wdA (j : Nat) : Nat := wdN.getD j 0
def WordsIs (wd : Nat → Int32) : Prop := ∀ j, j < 44 → wd j = nI (wdA j)
/-- the reference's q-th word: the class's number of it, where it begins -/
def wCl (q : Nat) : Nat := [5, 6, 7, 8, 4, 3, 0, 1, 2].getD q 0
def wSt (q : Nat) : Nat := [0, 6, 13, 21, 25, 28, 32, 35, 39].getD q 43
def wSg (w : Nat) : Nat := [22, 21, 14, 11, 5, 7, 8, 9, 10].getD w 1
theorem wdA_lt : ∀ j, j < 44 → wdA j < 256 := by decide +kernel
theorem wCl_lt : ∀ q, q < 9 → wCl q < 9 := by decide +kernel
theorem wSt_in : ∀ q, q < 9 → wSt q + 1 + wlen (wCl q) < 44 ∧ wdA (wSt q + 1 + wlen (wCl q)) = 32 ∧ wSt (q + 1) = wSt q + 1 + wlen (wCl q) := by decide +kernel
theorem wSt_ch : ∀ q, q < 9 → ∀ j, j < 7 → j < wlen (wCl q) → wdA (wSt q + 1 + j) = wcN (wCl q) j ∧ wcN (wCl q) j ≠ 32 := by decide +kernel
theorem w_apart : ∀ w, w < 9 → ∀ v, v < 9 → w ≠ v → wlen w = wlen v → ∃ j, j < 7 ∧ j < wlen w ∧ wcN w j ≠ wcN v j := by decide +kernel
theorem wIs_one {T : Nat → Nat} {p e w v : Nat} (hw : w < 9) (hv : v < 9) (h1 : wIs T p e w) (h2 : wIs T p e v) : w = v := by
  by_cases c : w = v
  · exact c
  obtain ⟨j, -, hj, hne⟩ := w_apart w hw v hv c (h1.1.symm.trans h2.1)
  exact absurd ((h1.2 j hj).symm.trans (h2.2 j (by rw [← h2.1, h1.1]; exact hj))) hne
/-- the word's number by the reference, -1 if there is none -/
def wvF (T : Nat → Nat) (p e : Nat) : Nat → Nat → Int32
  | 0, _ => -1
  | m + 1, q => if wIs T p e (wCl q) then nI q else wvF T p e m (q + 1)
section T12
variable {r wd : Nat → Int32} {T : Nat → Nat} {n : Nat}
theorem wordAt_93 (hW : WordsIs wd) {x1 x2 : Int32} {rec : Int32 → Int32 → Option Int32} {q : Nat} (hq : q < 9) (x3 : Int32) : ∀ k j f, j + k = wSt q + 1 + wlen (wCl q) → wSt q + 1 ≤ j → k < f → F_X12_wordAt_93 x1 x2 r wd rec f x3 (nI j) = rec x3 (nI (wSt (q + 1))) := by
  obtain ⟨s1, s2, s3⟩ := wSt_in q hq
  have hl := wlen_le (wCl q) (wCl_lt q hq)
  intro k
  induction k with
  | zero =>
    intro j f e h0 hf
    obtain ⟨f, rfl⟩ : ∃ g, f = g + 1 := ⟨f - 1, by omega⟩
    have ej : j = wSt q + 1 + wlen (wCl q) := by omega
    rw [F_X12_wordAt_93, gin_n (show j < 44 by omega) (by omega), nI_clamp (by omega), hW j (by omega), ej, s2, if_pos (show nI 32 = (32 : Int32) from rfl), s3]
  | succ k ih =>
    intro j f e h0 hf
    obtain ⟨f, rfl⟩ : ∃ g, f = g + 1 := ⟨f - 1, by omega⟩
    have hj := wSt_ch q hq (j - (wSt q + 1)) (by omega) (by omega)
    rw [show wSt q + 1 + (j - (wSt q + 1)) = j by omega] at hj
    have hlt := wdA_lt j (by omega)
    rw [F_X12_wordAt_93, gin_n (show j < 44 by omega) (by omega), nI_clamp (by omega), hW j (by omega), if_neg (show ¬ nI (wdA j) = (32 : Int32) from fun z => hj.2 (by rw [← hj.1]; exact (nI_eq (show wdA j < 2 ^ 31 by omega) (show 32 < 2 ^ 31 by omega)).mp z)), nI_1]
    exact ih (j + 1) f (by omega) (by omega) (by omega)
theorem wordAt_19 (h : TxtIs r T n) (hW : WordsIs wd) {p e : Nat} (hpe : p ≤ e) (hen : e ≤ n) (h32 : ∀ j, p ≤ j → j < e → T j ≠ 32) {rec : Int32 → Int32 → Option Int32} {q : Nat} (hq : q < 9) (x3 : Int32) : ∀ k i f, i + k = wlen (wCl q) → k < f → p + i ≤ e → (∀ j, j < i → T (p + j) = wcN (wCl q) j) →
    F_X12_wordAt_19 (nI p) (nI e) r wd rec f x3 (nI (wSt q)) (nI i) = if wIs T p e (wCl q) then some x3 else rec x3 (nI (wSt (q + 1))) := by
  have hn := h.1
  obtain ⟨s1, s2, s3⟩ := wSt_in q hq
  have hl := wlen_le (wCl q) (wCl_lt q hq)
  have nomore : ∀ i, i ≤ wlen (wCl q) → p + i < e → ¬ wIs T p e (wCl q) → F_X12_wordAt_60 (nI p) (nI e) r wd rec x3 (nI (wSt q)) (nI i) = if wIs T p e (wCl q) then some x3 else rec x3 (nI (wSt (q + 1))) := by
    intro i hi hlt hno
    unfold F_X12_wordAt_60
    rw [nI_add, if_neg (fun z => by rw [nI_eq (by omega) (by omega)] at z; omega), nI_1, wordAt_93 hW hq x3 (wlen (wCl q)) (wSt q + 1) FU (by omega) (by omega) (by show _ < 100000; omega), if_neg hno]
  have over : ∀ i, i ≤ wlen (wCl q) → p + i = e → (∀ j, j < i → T (p + j) = wcN (wCl q) j) → F_X12_wordAt_60 (nI p) (nI e) r wd rec x3 (nI (wSt q)) (nI i) = if wIs T p e (wCl q) then some x3 else rec x3 (nI (wSt (q + 1))) := by
    intro i hi he hm
    unfold F_X12_wordAt_60
    rw [nI_add, he, if_pos rfl, nI_1, nI_add, gin_n (show wSt q + 1 + i < 44 by omega) (by omega), nI_clamp (by omega), hW _ (by omega)]
    by_cases c : i = wlen (wCl q)
    · rw [c, s2, if_pos (show nI 32 = (32 : Int32) from rfl), if_pos ⟨by omega, fun j hj => hm j (by omega)⟩]
    · have hj := wSt_ch q hq i (by omega) (by omega)
      have hlt := wdA_lt (wSt q + 1 + i) (by omega)
      rw [if_neg (show ¬ nI (wdA (wSt q + 1 + i)) = (32 : Int32) from fun z => hj.2 (by rw [← hj.1]; exact (nI_eq (show wdA (wSt q + 1 + i) < 2 ^ 31 by omega) (show 32 < 2 ^ 31 by omega)).mp z)), wordAt_93 hW hq x3 (wlen (wCl q)) (wSt q + 1) FU (by omega) (by omega) (by show _ < 100000; omega), if_neg (fun z => c (by have := z.1; omega))]
  intro k
  induction k with
  | zero =>
    intro i f e0 hf hpi hm
    obtain ⟨f, rfl⟩ : ∃ g, f = g + 1 := ⟨f - 1, by omega⟩
    rw [F_X12_wordAt_19, nI_add]
    by_cases c : p + i = e
    · rw [if_pos (nI_le (show e ≤ p + i by omega) (by omega))]
      exact over i (by omega) c hm
    · obtain ⟨hr, hc⟩ := h.2 (p + i) (by omega)
      rw [if_neg (nI_ge (show p + i < e by omega) (by omega)), nI_1, nI_add, gin_n (show wSt q + 1 + i < 44 by omega) (by omega), gin_n (show p + i < 400 by omega) (by omega), nI_clamp (show wSt q + 1 + i < 2 ^ 31 by omega), nI_clamp (show p + i < 2 ^ 31 by omega), hW _ (by omega), hr, show wSt q + 1 + i = wSt q + 1 + wlen (wCl q) by omega, s2, if_neg (fun z => h32 (p + i) (by omega) (by omega) ((nI_eq (show 32 < 2 ^ 31 by omega) (show T (p + i) < 2 ^ 31 by omega)).mp z).symm)]
      exact nomore i (by omega) (by omega) (fun z => by have := z.1; omega)
  | succ k ih =>
    intro i f e0 hf hpi hm
    obtain ⟨f, rfl⟩ : ∃ g, f = g + 1 := ⟨f - 1, by omega⟩
    rw [F_X12_wordAt_19, nI_add]
    by_cases c : p + i = e
    · rw [if_pos (nI_le (show e ≤ p + i by omega) (by omega))]
      exact over i (by omega) c hm
    · obtain ⟨hr, hc⟩ := h.2 (p + i) (by omega)
      have hj := wSt_ch q hq i (by omega) (by omega)
      have hlt := wdA_lt (wSt q + 1 + i) (by omega)
      rw [if_neg (nI_ge (show p + i < e by omega) (by omega)), nI_1, nI_add, nI_1, gin_n (show wSt q + 1 + i < 44 by omega) (by omega), gin_n (show p + i < 400 by omega) (by omega), nI_clamp (show wSt q + 1 + i < 2 ^ 31 by omega), nI_clamp (show p + i < 2 ^ 31 by omega), hW _ (by omega), hr]
      by_cases d : wdA (wSt q + 1 + i) = T (p + i)
      · rw [if_pos (by rw [d])]
        refine ih (i + 1) f (by omega) (by omega) (by omega) (fun j hji => ?_)
        by_cases z : j = i
        · subst z; rw [← d]; exact hj.1
        · exact hm j (by omega)
      · rw [if_neg (fun z => d ((nI_eq (by omega) (by omega)).mp z))]
        exact nomore i (by omega) (by omega) (fun z => d (by rw [hj.1, z.2 i (by omega)]))
theorem wordAt_5 (h : TxtIs r T n) (hW : WordsIs wd) {p e : Nat} (hpe : p ≤ e) (hen : e ≤ n) (h32 : ∀ j, p ≤ j → j < e → T j ≠ 32) : ∀ m q f x3, q + m = 9 → x3 + 1 = nI q → m < f → F_X12_wordAt_5 (nI p) (nI e) r wd f x3 (nI (wSt q)) = some (wvF T p e m q) := by
  intro m
  induction m with
  | zero =>
    intro q f x3 e0 hx hf
    obtain ⟨f, rfl⟩ : ∃ g, f = g + 1 := ⟨f - 1, by omega⟩
    have : q = 9 := by omega
    subst this
    rw [F_X12_wordAt_5, if_pos (by decide)]
    rfl
  | succ m ih =>
    intro q f x3 e0 hx hf
    obtain ⟨f, rfl⟩ : ∃ g, f = g + 1 := ⟨f - 1, by omega⟩
    obtain ⟨s1, s2, s3⟩ := wSt_in q (by omega)
    have hl := wlen_le (wCl q) (wCl_lt q (by omega))
    rw [F_X12_wordAt_5, if_neg (show ¬ (43 : Int32) ≤ nI (wSt q) from nI_ge (b := 43) (by omega) (by omega)), hx, show (0 : Int32) = nI 0 from rfl, wordAt_19 h hW hpe hen h32 (show q < 9 by omega) (nI q) (wlen (wCl q)) 0 FU (by omega) (by show _ < 100000; omega) (by omega) (fun j hj => by omega), wvF]
    by_cases c : wIs T p e (wCl q)
    · rw [if_pos c, if_pos c]
    · rw [if_neg c, if_neg c]
      exact ih (q + 1) f (nI q) (by omega) (nI_1 q) (by omega)
theorem wvF_hit {p e : Nat} : ∀ m q k, q + m = 9 → q ≤ k → k < 9 → wIs T p e (wCl k) → wvF T p e m q = nI k := by
  intro m
  induction m with
  | zero => intro q k a b c; omega
  | succ m ih =>
    intro q k a b c hk
    rw [wvF]
    by_cases z : q = k
    · subst z; rw [if_pos hk]
    · rw [if_neg (fun y => ?_)]
      · exact ih (q + 1) k (by omega) (by omega) c hk
      · have h1 := wIs_one (wCl_lt q (by omega)) (wCl_lt k c) y hk
        have inj : ∀ a, a < 9 → ∀ b, b < 9 → wCl a = wCl b → a = b := by decide +kernel
        exact z (inj q (by omega) k c h1)
theorem wvF_no {p e : Nat} : ∀ m q, q + m = 9 → (∀ k, k < 9 → ¬ wIs T p e k) → wvF T p e m q = -1 := by
  intro m
  induction m with
  | zero => intro q _ _; rfl
  | succ m ih =>
    intro q a h
    rw [wvF, if_neg (h _ (wCl_lt q (by omega)))]
    exact ih (q + 1) (by omega) h
theorem raw_s (h : TxtIs r T n) {i : Nat} (hi : i ≤ n) : F_X12_raw (nI i) (nI n) r = some (if i < n then nI (T i) else -1) := by
  have hn := h.1
  unfold F_X12_raw
  by_cases c : i < n
  · rw [if_neg (nI_ge c (by omega)), gin_n (show i < 400 by omega) (by omega), nI_clamp (by omega), (h.2 i c).1, if_pos c]
  · rw [if_pos (nI_le (by omega) (by omega)), if_neg c]
theorem skip12 (h : TxtIs r T n) (fr tk va : Int32) : ∀ k i f, i + k = n → k < f → F_X12_next_0 (nI n) r wd f (nI i) fr tk va = F_X12_next_39 (nI n) r wd (nI (scn isBlk T k i)) fr tk va := by
  have hn := h.1
  intro k
  induction k with
  | zero =>
    intro i f e hf
    obtain ⟨f, rfl⟩ : ∃ g, f = g + 1 := ⟨f - 1, by omega⟩
    rw [F_X12_next_0, raw_s h (by omega), Option.bind_some, if_neg (show ¬ i < n by omega), if_neg (by decide), Option.bind_some, if_neg (by decide)]
    rfl
  | succ k ih =>
    intro i f e hf
    obtain ⟨f, rfl⟩ : ∃ g, f = g + 1 := ⟨f - 1, by omega⟩
    obtain ⟨hr, hc⟩ := h.2 i (by omega)
    rw [F_X12_next_0, raw_s h (by omega), Option.bind_some, if_pos (show i < n by omega), Option.bind_some, nI_1, scn, show (32 : Int32) = nI 32 from rfl, show (10 : Int32) = nI 10 from rfl]
    simp only [nI_eq (show T i < 2 ^ 31 by omega) (show 32 < 2 ^ 31 by omega), nI_eq (show T i < 2 ^ 31 by omega) (show 10 < 2 ^ 31 by omega)]
    by_cases c1 : T i = 32
    · rw [if_pos c1, ih (i + 1) f (by omega) (by omega), if_pos (isBlk_iff.mpr (Or.inl c1))]
    · by_cases c2 : T i = 10
      · rw [if_neg c1, if_pos c2, ih (i + 1) f (by omega) (by omega), if_pos (isBlk_iff.mpr (Or.inr c2))]
      · rw [if_neg c1, if_neg c2, if_neg (fun q => (isBlk_iff.mp q).elim c1 c2)]
theorem word12 (h : TxtIs r T n) (fr tk va : Int32) : ∀ k i f, i + k = n → k < f → F_X12_next_95 (nI n) r wd f (nI i) fr tk va = F_X12_next_123 (nI n) r wd (nI (scn isLet T k i)) fr tk va := by
  have hn := h.1
  intro k
  induction k with
  | zero =>
    intro i f e hf
    obtain ⟨f, rfl⟩ : ∃ g, f = g + 1 := ⟨f - 1, by omega⟩
    rw [F_X12_next_95, raw_s h (by omega), Option.bind_some, if_neg (show ¬ i < n by omega), show F_X12_isLetter (-1) = some 0 by decide +kernel, Option.bind_some, if_pos rfl]
    rfl
  | succ k ih =>
    intro i f e hf
    obtain ⟨f, rfl⟩ : ∃ g, f = g + 1 := ⟨f - 1, by omega⟩
    obtain ⟨hr, hc⟩ := h.2 i (by omega)
    rw [F_X12_next_95, raw_s h (by omega), Option.bind_some, if_pos (show i < n by omega), let12 _ hc, Option.bind_some, ite10, nI_1, scn]
    by_cases c : isLet (T i) = true
    · rw [if_pos c, if_pos c, ih (i + 1) f (by omega) (by omega)]
    · rw [if_neg c, if_neg c]
theorem decN_snoc (T : Nat → Nat) : ∀ k i a, decN T (k + 1) i a = decN T k i a * 10 + (T (i + k) - 48) := by
  intro k
  induction k with
  | zero => intro i a; rfl
  | succ k ih =>
    intro i a
    rw [decN, ih (i + 1), decN, show i + 1 + k = i + (k + 1) by omega]
theorem num12 (h : TxtIs r T n) {p : Nat} (tk : Int32) : ∀ k i f a, p < i → i + k = n → k < f → a < 100000 → (∀ j, p ≤ j → j < i → isDig (T j) = true) → (i - p ≤ 4 → a = decN T (i - p) p 0) →
    ∃ v, F_X12_next_171 (nI n) r wd f (nI i) (nI p) tk (nI a) = some (nI (scn isDig T k i), nI p, (if scn isDig T k i - p ≤ 4 then 3 else tk), v) ∧ (scn isDig T k i - p ≤ 4 → v = nI (decN T (scn isDig T k i - p) p 0)) := by
  have hn := h.1
  have last : ∀ e a, p < e → e ≤ n → (e - p ≤ 4 → a = decN T (e - p) p 0) → ∃ v, F_X12_next_239 (nI n) r wd (nI e) (nI p) tk (nI a) = some (nI e, nI p, (if e - p ≤ 4 then 3 else tk), v) ∧ (e - p ≤ 4 → v = nI (decN T (e - p) p 0)) := by
    intro e a h1 h2 h3
    unfold F_X12_next_239
    refine ⟨nI a, ?_, fun q => by rw [h3 q]⟩
    rw [pk_sub (by omega), show (5 : Int32) = nI 5 from rfl]
    by_cases c : e - p ≤ 4
    · rw [if_neg (nI_ge (by omega) (by omega)), if_pos c]
    · rw [if_pos (nI_le (by omega) (by omega)), if_neg c]
  intro k
  induction k with
  | zero =>
    intro i f a hp e hf ha hd hv
    obtain ⟨f, rfl⟩ : ∃ g, f = g + 1 := ⟨f - 1, by omega⟩
    rw [F_X12_next_171, raw_s h (by omega), Option.bind_some, if_neg (show ¬ i < n by omega), show F_X12_isDigit (-1) = some 0 by decide +kernel, Option.bind_some, if_pos rfl, scn]
    exact last i a hp (by omega) hv
  | succ k ih =>
    intro i f a hp e hf ha hd hv
    obtain ⟨f, rfl⟩ : ∃ g, f = g + 1 := ⟨f - 1, by omega⟩
    obtain ⟨hr, hc⟩ := h.2 i (by omega)
    rw [F_X12_next_171, raw_s h (by omega), Option.bind_some, if_pos (show i < n by omega), dig12 _ hc, Option.bind_some, ite10, scn, Option.bind_some]
    by_cases c : isDig (T i) = true
    · rw [if_pos c, if_pos c]
      have hdd := isDig_iff.mp c
      have hall : ∀ j, p ≤ j → j < i + 1 → isDig (T j) = true := by
        intro j x y
        by_cases z : j = i
        · subst z; exact c
        · exact hd j x (by omega)
      unfold F_X12_next_223
      rw [nI_1]
      by_cases b : 10000 ≤ a
      · rw [if_pos (show (10000 : Int32) ≤ nI a from nI_le (a := 10000) b (by omega))]
        refine ih (i + 1) f a (by omega) (by omega) (by omega) ha hall (fun q => ?_)
        exfalso
        have h1 := hv (by omega)
        have h2 := decN_lt T (i - p) p 0 (fun j x y => hd j x (by omega))
        have h3 : 10 ^ (i - p) ≤ 10 ^ 4 := Nat.pow_le_pow_right (by omega) (by omega)
        omega
      · rw [if_neg (show ¬ (10000 : Int32) ≤ nI a from nI_ge (b := 10000) (by omega) (by omega)), show (10 : Int32) = nI 10 from rfl, show (48 : Int32) = nI 48 from rfl, pk_mul, nI_add, pk_sub (by omega)]
        refine ih (i + 1) f (10 * a + T i - 48) (by omega) (by omega) (by omega) (by omega) hall (fun q => ?_)
        rw [show i + 1 - p = (i - p) + 1 by omega, decN_snoc, ← hv (by omega), show p + (i - p) = i by omega]
        omega
    · rw [if_neg c, if_neg c]
      exact last i a hp (by omega) hv
end T12
