/-! what stands in the end: sincere, and with sight -/
theorem beats_s {B : Nat → Nat → Bool} {be : Nat → Int32} (hB : ∀ a, a < 6 → ∀ i, i < 32 → bt (be a) i = (decide (i < 6) && B a i)) {a b : Nat} (ha : a < 6) (hb : b < 6) : F_X4_beats (nI a) (nI b) be = some (if B a b = true then 1 else 0) := by
  unfold F_X4_beats
  rw [show (6 : Int32) = nI 6 from rfl, inside_n (by omega) (by omega), if_pos ha, Option.bind_some, if_neg one_ne, inside_n (by omega) (by omega), if_pos hb, Option.bind_some, if_neg one_ne, gin_n ha (by omega), nI_clamp (by omega), has_s _ (show b < 32 by omega), Option.bind_some, hB a ha b (by omega), decide_eq_true hb, Bool.true_and]
  by_cases c : B a b = true
  · rw [if_pos c, if_neg one_ne]
  · rw [if_neg c, if_pos rfl]
/-- rows that hold motions -/
def Mot (n : Nat) (r : Nat → Int32) (l : Nat → Nat) : Prop := ∀ j, j < n → r j = nI (l j) ∧ l j < 6
def snc (B : Nat → Nat → Bool) (l : Nat → Nat) : Nat → Nat
  | 0 => l 0
  | i + 1 => if B (l (i + 1)) (snc B l i) = true then l (i + 1) else snc B l i
theorem snc_lt {B : Nat → Nat → Bool} {n : Nat} {l : Nat → Nat} (h : ∀ j, j < n → l j < 6) : ∀ i, i < n → snc B l i < 6 := by
  intro i
  induction i with
  | zero => intro hi; exact h 0 hi
  | succ i ih =>
    intro hi
    rw [snc]
    by_cases c : B (l (i + 1)) (snc B l i) = true
    · rw [if_pos c]; exact h _ hi
    · rw [if_neg c]; exact ih (by omega)
def lvl (B : Nat → Nat → Bool) (l : Nat → Nat) (n : Nat) : Nat → Nat → Nat
  | 0, s => s
  | t + 1, s => if B (lvl B l n t (l (n - 1 - t))) (lvl B l n t s) = true then lvl B l n t (l (n - 1 - t)) else lvl B l n t s
theorem lvl_lt {B : Nat → Nat → Bool} {n : Nat} {l : Nat → Nat} (h : ∀ j, j < n → l j < 6) : ∀ t, t < n → ∀ s, s < 6 → lvl B l n t s < 6 := by
  intro t
  induction t with
  | zero => intro _ s hs; exact hs
  | succ t ih =>
    intro ht s hs
    rw [lvl]
    by_cases c : B (lvl B l n t (l (n - 1 - t))) (lvl B l n t s) = true
    · rw [if_pos c]; exact ih (by omega) _ (h _ (by omega))
    · rw [if_neg c]; exact ih (by omega) _ hs
section OC
variable {B : Nat → Nat → Bool} {be btr : Nat → Int32} {n : Nat} {l : Nat → Nat}
theorem sincere_9 (hB : ∀ a, a < 6 → ∀ i, i < 32 → bt (be a) i = (decide (i < 6) && B a i)) (hn : n ≤ 6) {r : Nat → Int32} (hr : Mot n r l) : ∀ (fuel i : Nat), n - i < fuel → i < n → F_X4_sincere_9 (nI n) be r fuel (nI (snc B l i)) (nI (i + 1)) = some (nI (snc B l (n - 1))) := by
  intro fuel
  induction fuel with
  | zero => intro i h; omega
  | succ f ih =>
    intro i h hi
    rw [F_X4_sincere_9]
    rcases Nat.lt_or_ge (i + 1) n with hlt | hge
    · obtain ⟨e1, e2⟩ := hr (i + 1) hlt
      have hs := snc_lt (B := B) (fun j hj => (hr j hj).2) i hi
      have next := ih (i + 1) (by omega) hlt
      rw [if_neg (nI_ge hlt (by omega)), if_neg (show ¬ (6 : Int32) ≤ nI (i + 1) from nI_ge (b := 6) (by omega) (by omega)), gin_n (show i + 1 < 6 by omega) (by omega), gin_n (show i + 1 < 6 by omega) (by omega), nI_clamp (by omega), e1, beats_s hB e2 hs, Option.bind_some, nI_1]
      rw [snc] at next
      by_cases c : B (l (i + 1)) (snc B l i) = true
      · rw [if_pos c] at next
        rw [if_pos c, if_neg one_ne]; exact next
      · rw [if_neg c] at next
        rw [if_neg c, if_pos rfl]; exact next
    · rw [if_pos (nI_le hge (by omega)), show n - 1 = i by omega]
theorem ends_13 (hB : ∀ a i, a < 6 → i < 6 → btr (6 * a + i) = if B a i = true then 1 else 0) (hn : n ≤ 6) {r : Nat → Int32} (hr : Mot n r l) (le : Nat → Int32) : ∀ (fuel i : Nat), n - i < fuel → i < n → F_X12_ends_13 (nI n) btr r fuel (nI (snc B l i)) (nI (i + 1)) le = some (nI (snc B l (n - 1)), le) := by
  intro fuel
  induction fuel with
  | zero => intro i h; omega
  | succ f ih =>
    intro i h hi
    rw [F_X12_ends_13]
    rcases Nat.lt_or_ge (i + 1) n with hlt | hge
    · obtain ⟨e1, e2⟩ := hr (i + 1) hlt
      have hs := snc_lt (B := B) (fun j hj => (hr j hj).2) i hi
      have next := ih (i + 1) (by omega) hlt
      have e36 : (6 : Int32) * nI (l (i + 1)) + nI (snc B l i) = nI (6 * l (i + 1) + snc B l i) := by rw [show (6 : Int32) = nI 6 from rfl, pk_mul, nI_add]
      rw [if_neg (nI_ge hlt (by omega)), gin_n (show i + 1 < 6 by omega) (by omega), gin_n (show i + 1 < 6 by omega) (by omega), nI_clamp (show i + 1 < 2 ^ 31 by omega), e1, e36, gin_n (show 6 * l (i + 1) + snc B l i < 36 by omega) (by omega), nI_clamp (by omega), hB _ _ e2 hs, nI_1]
      rw [snc] at next
      by_cases c : B (l (i + 1)) (snc B l i) = true
      · rw [if_pos c] at next
        rw [if_pos c, if_neg one_ne]; exact next
      · rw [if_neg c] at next
        rw [if_neg c, if_pos rfl]; exact next
    · rw [if_pos (nI_le hge (by omega)), show n - 1 = i by omega]
/-! with sight: the class's row -/
theorem foreseen_41 (hB : ∀ a, a < 6 → ∀ i, i < 32 → bt (be a) i = (decide (i < 6) && B a i)) {c : Nat} (hc : c < 6) {v : Nat → Nat} (hv : ∀ s, s < 6 → v s < 6) (cnt x1 : Int32) (r : Nat → Int32) (rec28 : Int32 → (Nat → Int32) → Option (Int32 × (Nat → Int32))) :
    ∀ (fuel j : Nat) (le : Nat → Int32), 6 - j < fuel → j ≤ 6 → (∀ s, s < j → le s = nI (if B c (v s) = true then c else v s)) → (∀ s, j ≤ s → s < 6 → le s = nI (v s)) →
      ∃ le', F_X4_foreseen_41 cnt be r rec28 fuel x1 (nI c) (nI j) le = rec28 (x1 + (-1)) le' ∧ ∀ s, s < 6 → le' s = nI (if B c (v s) = true then c else v s) := by
  intro fuel
  induction fuel with
  | zero => intro j le h; omega
  | succ f ih =>
    intro j le h hj h1 h2
    rw [F_X4_foreseen_41]
    rcases Nat.lt_or_ge j 6 with hlt | hge
    · rw [if_neg (show ¬ (6 : Int32) ≤ nI j from nI_ge (b := 6) hlt (by omega)), gin_n hlt (by omega), gin_n hlt (by omega), nI_clamp (by omega), h2 j (Nat.le_refl _) hlt, beats_s hB hc (hv j hlt), Option.bind_some, nI_1]
      by_cases q : B c (v j) = true
      · rw [if_pos q, if_neg one_ne]
        refine ih (j + 1) _ (by omega) (by omega) (fun s hs => ?_) (fun s a b => ?_)
        · by_cases e : s = j
          · subst e; rw [upd_self, if_pos q]
          · rw [upd_ne _ _ e]; exact h1 s (by omega)
        · rw [upd_ne _ _ (by omega)]; exact h2 s (by omega) b
      · rw [if_neg q, if_pos rfl]
        refine ih (j + 1) le (by omega) (by omega) (fun s hs => ?_) (fun s a b => h2 s (by omega) b)
        by_cases e : s = j
        · subst e; rw [if_neg q]; exact h2 s (Nat.le_refl _) hlt
        · exact h1 s (by omega)
    · have e : j = 6 := by omega
      subst e
      rw [if_pos (show (6 : Int32) ≤ nI 6 by decide)]
      exact ⟨le, rfl, h1⟩
theorem leadOf_s {r le : Nat → Int32} (hr : Mot n r l) {v : Nat → Nat} (hv : ∀ s, s < 6 → le s = nI (v s)) (hn : n ≤ 6) {i : Nat} (hi : i < n) : F_X4_leadOf (nI i) le r = some (nI (v (l i))) := by
  obtain ⟨e1, e2⟩ := hr i hi
  unfold F_X4_leadOf
  rw [show (6 : Int32) = nI 6 from rfl, inside_n (by omega) (by omega), if_pos (show i < 6 by omega), Option.bind_some, if_neg one_ne, gin_n (show i < 6 by omega) (by omega), gin_n (show i < 6 by omega) (by omega), nI_clamp (show i < 2 ^ 31 by omega), e1, inside_n (by omega) (by omega), if_pos e2, Option.bind_some, if_neg one_ne, gin_n e2 (by omega), nI_clamp (show l i < 2 ^ 31 by omega), hv _ e2]
theorem foreseen_28 (hB : ∀ a, a < 6 → ∀ i, i < 32 → bt (be a) i = (decide (i < 6) && B a i)) (hn : n ≤ 6) {r : Nat → Int32} (hr : Mot n r l) : ∀ (fuel i : Nat) (le : Nat → Int32), i < fuel → i < n → (∀ s, s < 6 → le s = nI (lvl B l n (n - 1 - i) s)) → ∃ le', F_X4_foreseen_28 (nI n) be r fuel (nI i) le = some (nI (lvl B l n (n - 1) (l 0)), le') := by
  intro fuel
  induction fuel with
  | zero => intro i le h; omega
  | succ f ih =>
    intro i le h hi hle
    have hl6 : ∀ j, j < n → l j < 6 := fun j hj => (hr j hj).2
    rw [F_X4_foreseen_28]
    by_cases c : i = 0
    · subst c
      rw [if_pos (show nI 0 < (1 : Int32) by decide), show (0 : Int32) = nI 0 from rfl, leadOf_s hr hle hn hi, Option.bind_some]
      exact ⟨le, rfl⟩
    · obtain ⟨k, rfl⟩ : ∃ k, i = k + 1 := ⟨i - 1, by omega⟩
      rw [if_neg (show ¬ nI (k + 1) < (1 : Int32) from nI_nlt (b := 1) (by omega) (by omega)), leadOf_s hr hle hn hi, Option.bind_some]
      obtain ⟨le', g1, g2⟩ := foreseen_41 (c := lvl B l n (n - 1 - (k + 1)) (l (k + 1))) (v := lvl B l n (n - 1 - (k + 1))) hB (lvl_lt hl6 _ (by omega) _ (hl6 _ hi)) (fun s hs => lvl_lt hl6 _ (by omega) _ hs) (nI n) (nI (k + 1)) r (F_X4_foreseen_28 (nI n) be r f) FU 0 le (by unfold FU; omega) (by omega) (fun s hs => by omega) (fun s _ hs => hle s hs)
      rw [nI_0] at g1
      rw [g1, pk_m1]
      refine ih k le' (by omega) (by omega) (fun s hs => ?_)
      rw [g2 s hs, show n - 1 - k = (n - 1 - (k + 1)) + 1 by omega, lvl, show n - 1 - (n - 1 - (k + 1)) = k + 1 by omega]
theorem foreseen_2 (hB : ∀ a, a < 6 → ∀ i, i < 32 → bt (be a) i = (decide (i < 6) && B a i)) (h1 : 1 ≤ n) (hn : n ≤ 6) {r : Nat → Int32} (hr : Mot n r l) : ∀ (fuel j : Nat) (le : Nat → Int32), 6 - j < fuel → j ≤ 6 → (∀ s, s < j → le s = nI s) → ∃ le', F_X4_foreseen_2 (nI n) be r fuel (nI j) le = some (nI (lvl B l n (n - 1) (l 0)), le') := by
  intro fuel
  induction fuel with
  | zero => intro j le h; omega
  | succ f ih =>
    intro j le h hj hle
    rw [F_X4_foreseen_2]
    rcases Nat.lt_or_ge j 6 with hlt | hge
    · rw [if_neg (show ¬ (6 : Int32) ≤ nI j from nI_ge (b := 6) hlt (by omega)), gin_n hlt (by omega), nI_clamp (by omega), nI_1]
      exact ih (j + 1) _ (by omega) (by omega) (fun s hs => by
        by_cases e : s = j
        · subst e; rw [upd_self]
        · rw [upd_ne _ _ e]; exact hle s (by omega))
    · have e : j = 6 := by omega
      subst e
      rw [if_pos (show (6 : Int32) ≤ nI 6 by decide), show (1 : Int32) = nI 1 from rfl, pk_sub h1]
      exact foreseen_28 hB hn hr FU (n - 1) le (by unfold FU; omega) (by omega) (fun s hs => by
        rw [show n - 1 - (n - 1) = 0 by omega]
        exact hle s hs)
/-! with sight: the reference's rows -/
theorem ends_117 (hB : ∀ a i, a < 6 → i < 6 → btr (6 * a + i) = if B a i = true then 1 else 0) (hB0 : ∀ a, B a a = false) {c i : Nat} (hc : c < 6) (hi : i < 6) {v : Nat → Nat} (hv : ∀ s, s < 6 → v s < 6) (cnt : Int32) (r : Nat → Int32) (rec91 : Int32 → (Nat → Int32) → Option (Int32 × (Nat → Int32))) :
    ∀ (fuel j : Nat) (le : Nat → Int32), 6 - j < fuel → j ≤ 6 → (∀ s, s < j → le (6 * i + s) = nI (if B c (v s) = true then c else v s)) → (∀ s, s < 6 → le (6 * (i + 1) + s) = nI (v s)) →
      ∃ le', F_X12_ends_117 cnt btr r rec91 fuel (nI i) (nI c) (nI j) le = rec91 (nI i + (-1)) le' ∧ ∀ s, s < 6 → le' (6 * i + s) = nI (if B c (v s) = true then c else v s) := by
  intro fuel
  induction fuel with
  | zero => intro j le h; omega
  | succ f ih =>
    intro j le h hj h1 h2
    rw [F_X12_ends_117]
    rcases Nat.lt_or_ge j 6 with hlt | hge
    · have ea : (6 : Int32) * (nI i + 1) + nI j = nI (6 * (i + 1) + j) := by rw [show (6 : Int32) = nI 6 from rfl, nI_1, pk_mul, nI_add]
      have eb : (6 : Int32) * nI i + nI j = nI (6 * i + j) := by rw [show (6 : Int32) = nI 6 from rfl, pk_mul, nI_add]
      have hvj := hv j hlt
      have ec : (6 : Int32) * nI c + nI (v j) = nI (6 * c + v j) := by rw [show (6 : Int32) = nI 6 from rfl, pk_mul, nI_add]
      rw [if_neg (show ¬ (6 : Int32) ≤ nI j from nI_ge (b := 6) hlt (by omega)), ea, eb, gin_n (show 6 * (i + 1) + j < 42 by omega) (by omega), nI_clamp (show 6 * (i + 1) + j < 2 ^ 31 by omega), h2 j hlt, ec, gin_n (show 6 * c + v j < 36 by omega) (by omega), nI_clamp (show 6 * c + v j < 2 ^ 31 by omega), hB _ _ hc hvj, nI_1 j]
      simp only [gin_n (show 6 * i + j < 42 by omega) (show 42 < 2 ^ 31 by omega), nI_clamp (show 6 * i + j < 2 ^ 31 by omega)]
      have step : ∀ x, x = nI (if B c (v j) = true then c else v j) → ∃ le', F_X12_ends_117 cnt btr r rec91 f (nI i) (nI c) (nI (j + 1)) (upd le (6 * i + j) x) = rec91 (nI i + (-1)) le' ∧ ∀ s, s < 6 → le' (6 * i + s) = nI (if B c (v s) = true then c else v s) := by
        intro x hx
        refine ih (j + 1) _ (by omega) (by omega) (fun s hs => ?_) (fun s hs => ?_)
        · by_cases e : s = j
          · subst e; rw [upd_self]; exact hx
          · rw [upd_ne _ _ (by omega)]; exact h1 s (by omega)
        · rw [upd_ne _ _ (by omega)]; exact h2 s hs
      by_cases q0 : c = v j
      · rw [if_pos (by rw [q0])]
        refine step _ ?_
        rw [← q0, hB0]; rfl
      · rw [if_neg (fun z => q0 ((nI_eq (by omega) (by omega)).mp z))]
        by_cases q : B c (v j) = true
        · rw [if_pos q, if_neg one_ne]
          refine step _ ?_
          rw [if_pos q]
        · rw [if_neg q, if_pos rfl]
          refine step _ ?_
          rw [if_neg q]
    · have e : j = 6 := by omega
      subst e
      rw [if_pos (show (6 : Int32) ≤ nI 6 by decide)]
      exact ⟨le, rfl, h1⟩
theorem ends_91 (hB : ∀ a i, a < 6 → i < 6 → btr (6 * a + i) = if B a i = true then 1 else 0) (hB0 : ∀ a, B a a = false) (hn : n ≤ 6) {r : Nat → Int32} (hr : Mot n r l) : ∀ (fuel i : Nat) (le : Nat → Int32), i < fuel → i < n → (∀ s, s < 6 → le (6 * (i + 1) + s) = nI (lvl B l n (n - 1 - i) s)) → ∃ le', F_X12_ends_91 (nI n) btr r fuel (nI i) le = some (nI (lvl B l n (n - 1) (l 0)), le') := by
  intro fuel
  induction fuel with
  | zero => intro i le h; omega
  | succ f ih =>
    intro i le h hi hle
    have hl6 : ∀ j, j < n → l j < 6 := fun j hj => (hr j hj).2
    rw [F_X12_ends_91]
    by_cases c : i = 0
    · subst c
      obtain ⟨e1, e2⟩ := hr 0 hi
      rw [if_pos (show nI 0 ≤ (0 : Int32) by decide), show gin (0 : Int32) 6 = gin (nI 0) 6 from rfl, gin_n (by omega) (by omega), show (0 : Int32).toNatClampNeg = 0 from rfl, e1, show (6 : Int32) = nI 6 from rfl, nI_add, gin_n (show 6 + l 0 < 42 by omega) (by omega), nI_clamp (by omega)]
      have := hle (l 0) e2
      rw [show 6 * (0 + 1) + l 0 = 6 + l 0 by omega] at this
      rw [this]
      exact ⟨le, rfl⟩
    · obtain ⟨k, rfl⟩ : ∃ k, i = k + 1 := ⟨i - 1, by omega⟩
      obtain ⟨e1, e2⟩ := hr (k + 1) hi
      have ea : (6 : Int32) * (nI (k + 1) + 1) + nI (l (k + 1)) = nI (6 * (k + 1 + 1) + l (k + 1)) := by rw [show (6 : Int32) = nI 6 from rfl, nI_1, pk_mul, nI_add]
      rw [if_neg (show ¬ nI (k + 1) ≤ (0 : Int32) from nI_nle (by omega) (by omega)), gin_n (show k + 1 < 6 by omega) (by omega), nI_clamp (show k + 1 < 2 ^ 31 by omega), e1, ea, gin_n (show 6 * (k + 1 + 1) + l (k + 1) < 42 by omega) (by omega), nI_clamp (by omega), hle _ e2]
      obtain ⟨le', g1, g2⟩ := ends_117 (c := lvl B l n (n - 1 - (k + 1)) (l (k + 1))) (i := k + 1) (v := lvl B l n (n - 1 - (k + 1))) hB hB0 (lvl_lt hl6 _ (by omega) _ (hl6 _ hi)) (by omega) (fun s hs => lvl_lt hl6 _ (by omega) _ hs) (nI n) r (F_X12_ends_91 (nI n) btr r f) FU 0 le (by unfold FU; omega) (by omega) (fun s hs => by omega) hle
      rw [nI_0] at g1
      rw [g1, pk_m1]
      refine ih k le' (by omega) (by omega) (fun s hs => ?_)
      rw [g2 s hs, show n - 1 - k = (n - 1 - (k + 1)) + 1 by omega, lvl, show n - 1 - (n - 1 - (k + 1)) = k + 1 by omega]
theorem ends_57 (hB : ∀ a i, a < 6 → i < 6 → btr (6 * a + i) = if B a i = true then 1 else 0) (hB0 : ∀ a, B a a = false) (h1 : 1 ≤ n) (hn : n ≤ 6) {r : Nat → Int32} (hr : Mot n r l) : ∀ (fuel j : Nat) (le : Nat → Int32), 6 - j < fuel → j ≤ 6 → (∀ s, s < j → le (6 * n + s) = nI s) → ∃ le', F_X12_ends_57 (nI n) btr r fuel (nI j) le = some (nI (lvl B l n (n - 1) (l 0)), le') := by
  intro fuel
  induction fuel with
  | zero => intro j le h; omega
  | succ f ih =>
    intro j le h hj hle
    rw [F_X12_ends_57]
    rcases Nat.lt_or_ge j 6 with hlt | hge
    · have ea : (6 : Int32) * nI n + nI j = nI (6 * n + j) := by rw [show (6 : Int32) = nI 6 from rfl, pk_mul, nI_add]
      rw [if_neg (show ¬ (6 : Int32) ≤ nI j from nI_ge (b := 6) hlt (by omega)), ea, gin_n (show 6 * n + j < 42 by omega) (by omega), nI_clamp (by omega), nI_1]
      exact ih (j + 1) _ (by omega) (by omega) (fun s hs => by
        by_cases e : s = j
        · subst e; rw [upd_self]
        · rw [upd_ne _ _ (by omega)]; exact hle s (by omega))
    · have e : j = 6 := by omega
      subst e
      rw [if_pos (show (6 : Int32) ≤ nI 6 by decide), show (1 : Int32) = nI 1 from rfl, pk_sub h1]
      exact ends_91 hB hB0 hn hr FU (n - 1) le (by unfold FU; omega) (by omega) (fun s hs => by
        rw [show n - 1 - (n - 1) = 0 by omega, show n - 1 + 1 = n by omega]
        exact hle s hs)
/-- what stands in the end -/
def outc (B : Nat → Nat → Bool) (l : Nat → Nat) (n : Nat) (x : Int32) : Nat := if x = 0 then snc B l (n - 1) else lvl B l n (n - 1) (l 0)
theorem outcome_s (hB : ∀ a, a < 6 → ∀ i, i < 32 → bt (be a) i = (decide (i < 6) && B a i)) (h1 : 1 ≤ n) (hn : n ≤ 6) {r : Nat → Int32} (hr : Mot n r l) (x : Int32) (le : Nat → Int32) : ∃ le', F_X4_outcome x (nI n) be le r = some (nI (outc B l n x), le') := by
  unfold F_X4_outcome outc
  by_cases c : x = 0
  · rw [if_pos c, if_pos c]
    unfold F_X4_sincere
    have h := sincere_9 hB hn hr FU 0 (by unfold FU; omega) (by omega)
    rw [snc, Nat.zero_add] at h
    rw [show gin (0 : Int32) 6 = gin (nI 0) 6 from rfl, gin_n (by omega) (by omega), show (0 : Int32).toNatClampNeg = 0 from rfl, (hr 0 (by omega)).1, show (1 : Int32) = nI 1 from rfl, h, Option.bind_some]
    exact ⟨le, rfl⟩
  · rw [if_neg c, if_neg c]
    unfold F_X4_foreseen
    obtain ⟨le', h⟩ := foreseen_2 hB h1 hn hr FU 0 le (by unfold FU; omega) (by omega) (fun s hs => by omega)
    rw [nI_0] at h
    rw [h, Option.bind_some]
    exact ⟨le', rfl⟩
theorem ends_s (hB : ∀ a i, a < 6 → i < 6 → btr (6 * a + i) = if B a i = true then 1 else 0) (hB0 : ∀ a, B a a = false) (h1 : 1 ≤ n) (hn : n ≤ 6) {r : Nat → Int32} (hr : Mot n r l) (x : Int32) (le : Nat → Int32) : ∃ le', F_X12_ends x (nI n) btr le r = some (nI (outc B l n x), le') := by
  unfold F_X12_ends outc
  by_cases c : x = 0
  · rw [if_pos c, if_pos c]
    have h := ends_13 hB hn hr le FU 0 (by unfold FU; omega) (by omega)
    rw [snc, Nat.zero_add] at h
    rw [show gin (0 : Int32) 6 = gin (nI 0) 6 from rfl, gin_n (by omega) (by omega), show (0 : Int32).toNatClampNeg = 0 from rfl, (hr 0 (by omega)).1, show (1 : Int32) = nI 1 from rfl, h]
    exact ⟨le, rfl⟩
  · rw [if_neg c, if_neg c]
    obtain ⟨le', h⟩ := ends_57 hB hB0 h1 hn hr FU 0 le (by unfold FU; omega) (by omega) (fun s hs => by omega)
    rw [nI_0] at h
    rw [h]
    exact ⟨le', rfl⟩
end OC
