/-! worth: the loops of both sides -/
theorem win_nI {a b : Nat} (ha : a < 1024) (hb : b < 1024) : (nI a &&& (nI b ^^^ (-1))) = 0 ↔ ∀ i, i < 10 → a.testBit i = true → b.testBit i = true := by
  rw [win_iff]
  constructor
  · intro h i hi hx
    have := h i (by omega) (by rw [bt_nI (by omega)]; exact hx)
    rwa [bt_nI (by omega)] at this
  · intro h i hi hx
    rcases Nat.lt_or_ge i 10 with c | c
    · rw [bt_nI hi] at hx ⊢; exact h i c hx
    · rw [nI_hi ha i c hi] at hx; cases hx
theorem win_le {a b : Nat} (ha : a < 1024) (hb : b < 1024) (h : (nI a &&& (nI b ^^^ (-1))) = 0) : a ≤ b := by
  have h2 := (win_nI ha hb).mp h
  have e : a &&& b = a := by
    apply Nat.eq_of_testBit_eq
    intro i
    rw [Nat.testBit_and]
    rcases Nat.lt_or_ge i 10 with c | c
    · cases hx : a.testBit i
      · rfl
      · rw [h2 i c hx]; rfl
    · have hx : a.testBit i = false := Nat.testBit_lt_two_pow (Nat.lt_of_lt_of_le (show a < 2 ^ 10 from ha) (Nat.pow_le_pow_right (by omega) c))
      rw [hx, Bool.false_and]
  rw [← e]
  exact Nat.and_le_right
/-- a set with one more member -/
theorem or_one {q m : Nat} (hq : q < 1024) (hm : m < 10) : nI q ||| ((1 : Int32) <<< (nI m &&& 31)) = nI (q ||| 2 ^ m) := by
  apply b_ext
  intro i hi
  rw [b_or, bt_nI hi, bt_nI hi, b_one (by omega) hi, Nat.testBit_or, Nat.testBit_two_pow]
  congr 1
  exact decide_eq_decide.mpr (by omega)
theorem or_lt {q m : Nat} (hq : q < 1024) (hm : m < 10) : q ||| 2 ^ m < 1024 := Nat.or_lt_two_pow (n := 10) hq (Nat.pow_lt_pow_right (by omega) hm)
/-- i is worth no less than j, over the sets below n -/
def nl (o : Nat) (bits : Nat → Int32) (i j n : Nat) : Prop := ∀ q, q < n → (nI q &&& (nI o ^^^ (-1))) = 0 → tb bits (q ||| 2 ^ j) = true → tb bits (q ||| 2 ^ i) = true
theorem noLess_20 {bits : Nat → Int32} {tin : Int32} {i j o : Nat} (hi : i < 10) (hj : j < 10) (ho : o < 1024) : ∀ (fuel q : Nat), 1025 - q < fuel → q ≤ o + 1 → nl o bits i j q → ∃ v, F_X9_noLess_20 (nI i) (nI j) tin bits fuel (nI o) (nI q) = some v ∧ (v = 0 ∨ v = 1) ∧ (v = 1 ↔ nl o bits i j 1024) := by
  intro fuel
  induction fuel with
  | zero => intro q h; omega
  | succ n ih =>
    intro q h hq hN
    rw [F_X9_noLess_20]
    rcases Nat.lt_or_ge o q with hlt | hge
    · rw [if_pos (nI_lt hlt (by omega))]
      refine ⟨1, rfl, Or.inr rfl, fun _ => ?_, fun _ => rfl⟩
      intro z hz hw
      have := win_le hz ho hw
      exact hN z (by omega) hw
    · have hq1 : q < 1024 := by omega
      rw [if_neg (nI_nlt hge (by omega)), isWithin_s, Option.bind_some, nI_1, or_one hq1 hj, or_one hq1 hi, at_s (or_lt hq1 hj), at_s (or_lt hq1 hi)]
      simp only [Option.bind_some]
      have go : (∀ (_ : (nI q &&& (nI o ^^^ (-1))) = 0), tb bits (q ||| 2 ^ j) = true → tb bits (q ||| 2 ^ i) = true) → nl o bits i j (q + 1) := by
        intro hs z hz
        by_cases e : z = q
        · subst e; exact hs
        · exact hN z (by omega)
      by_cases c1 : (nI q &&& (nI o ^^^ (-1))) = 0
      · rw [if_pos c1, if_neg one_ne]
        by_cases c2 : tb bits (q ||| 2 ^ j) = true
        · rw [if_pos c2, if_neg one_ne]
          by_cases c3 : tb bits (q ||| 2 ^ i) = true
          · rw [if_pos c3, if_neg one_ne]
            exact ih (q + 1) (by omega) (by omega) (go (fun _ _ => c3))
          · rw [if_neg c3, if_pos rfl]
            exact ⟨0, rfl, Or.inl rfl, fun e => absurd e.symm one_ne, fun e => absurd (e q hq1 c1 c2) c3⟩
        · rw [if_neg c2, if_pos rfl]
          exact ih (q + 1) (by omega) (by omega) (go (fun _ e => absurd e c2))
      · rw [if_neg c1, if_pos rfl]
        exact ih (q + 1) (by omega) (by omega) (go (fun e => absurd e c1))
theorem isWorth_2 {bits ca : Nat → Int32} {sin : Int32} {i j o : Nat} (hi : i < 10) (hj : j < 10) (hsin : ∀ i, 10 ≤ i → i < 32 → bt sin i = false) (hca : ∀ z, z < 1024 → ca z = if tb bits z = true then 1 else 0) (hO : ∀ q, q < 1024 → ((nI q &&& (nI o ^^^ (-1))) = 0 ↔ (nI q &&& (sin ^^^ (-1))) = 0 ∧ bt (nI q) i = false ∧ bt (nI q) j = false)) :
    ∀ (fuel q : Nat), 1024 - q < fuel → q ≤ 1024 → nl o bits i j q → ∃ v, F_X12_isWorth_2 (nI i) (nI j) sin ca fuel (nI q) = some v ∧ (v = 0 ∨ v = 1) ∧ (v = 1 ↔ nl o bits i j 1024) := by
  intro fuel
  induction fuel with
  | zero => intro q h; omega
  | succ n ih =>
    intro q h hq hN
    rw [F_X12_isWorth_2]
    rcases Nat.lt_or_ge q 1024 with hq1 | hge
    · rw [if_neg (show ¬ (1024 : Int32) ≤ nI q from nI_ge (b := 1024) hq1 (by omega)), isSet_s hsin, isWithin_s, isOf_s _ (show i < 32 by omega), isOf_s _ (show j < 32 by omega), nI_1, or_one hq1 hj, or_one hq1 hi]
      simp only [Option.bind_some, gin_n (or_lt hq1 hj) (show 1024 < 2 ^ 31 by omega), gin_n (or_lt hq1 hi) (show 1024 < 2 ^ 31 by omega), nI_clamp (show q ||| 2 ^ j < 2 ^ 31 by have := or_lt hq1 hj; omega), nI_clamp (show q ||| 2 ^ i < 2 ^ 31 by have := or_lt hq1 hi; omega), hca _ (or_lt hq1 hj), hca _ (or_lt hq1 hi)]
      have go : (∀ (_ : (nI q &&& (nI o ^^^ (-1))) = 0), tb bits (q ||| 2 ^ j) = true → tb bits (q ||| 2 ^ i) = true) → nl o bits i j (q + 1) := by
        intro hs z hz
        by_cases e : z = q
        · subst e; exact hs
        · exact hN z (by omega)
      have next := ih (q + 1) (by omega) (by omega)
      by_cases c1 : (nI q &&& (sin ^^^ (-1))) = 0
      · rw [if_pos c1, if_neg one_ne]
        by_cases b1 : bt (nI q) i = true
        · rw [if_pos b1, if_neg one_ne]
          exact next (go (fun e => by have := ((hO q hq1).mp e).2.1; rw [b1] at this; cases this))
        · rw [if_neg b1, if_pos rfl]
          by_cases b2 : bt (nI q) j = true
          · rw [if_pos b2, if_neg one_ne]
            exact next (go (fun e => by have := ((hO q hq1).mp e).2.2; rw [b2] at this; cases this))
          · rw [if_neg b2, if_pos rfl]
            have cO : (nI q &&& (nI o ^^^ (-1))) = 0 := (hO q hq1).mpr ⟨c1, by simpa using b1, by simpa using b2⟩
            by_cases c2 : tb bits (q ||| 2 ^ j) = true
            · rw [if_pos c2, if_neg one_ne]
              by_cases c3 : tb bits (q ||| 2 ^ i) = true
              · rw [if_pos c3, if_neg one_ne]
                exact next (go (fun _ _ => c3))
              · rw [if_neg c3, if_pos rfl]
                exact ⟨0, rfl, Or.inl rfl, fun e => absurd e.symm one_ne, fun e => absurd (e q hq1 cO c2) c3⟩
            · rw [if_neg c2, if_pos rfl]
              exact next (go (fun _ e => absurd e c2))
      · rw [if_neg c1, if_pos rfl]
        exact next (go (fun e => absurd ((hO q hq1).mp e).1 c1))
    · have e : q = 1024 := by omega
      subst e
      rw [if_pos (show (1024 : Int32) ≤ nI 1024 from nI_le (a := 1024) (Nat.le_refl _) (by omega))]
      exact ⟨1, rfl, Or.inr rfl, fun _ => hN, fun _ => rfl⟩
theorem v01_eq {v w : Int32} {P : Prop} (hv : v = 0 ∨ v = 1) (hw : w = 0 ∨ w = 1) (h1 : v = 1 ↔ P) (h2 : w = 1 ↔ P) : v = w := by
  rcases hv with a | a <;> rcases hw with b | b
  · rw [a, b]
  · have := h1.mpr (h2.mp b); rw [a] at this; exact absurd this.symm one_ne
  · have := h2.mpr (h1.mp a); rw [b] at this; exact absurd this.symm one_ne
  · rw [a, b]
/-- both sides on 'is worth no less' -/
theorem worth_same {bits ca : Nat → Int32} {sin : Int32} {i j : Nat} (hi : i < 10) (hj : j < 10) (hsin : ∀ i, 10 ≤ i → i < 32 → bt sin i = false) (hca : ∀ z, z < 1024 → ca z = if tb bits z = true then 1 else 0) :
    ∃ v, F_X9_noLess (nI i) (nI j) sin bits = some v ∧ F_X12_isWorth (nI i) (nI j) sin ca = some v := by
  unfold F_X9_noLess F_X12_isWorth
  have hob : ∀ z, z < 32 → bt ((sin &&& (((1 : Int32) <<< (nI i &&& 31)) ^^^ (-1))) &&& (((1 : Int32) <<< (nI j &&& 31)) ^^^ (-1))) z = (bt sin z && !decide (z = i) && !decide (z = j)) := by
    intro z hz
    rw [b_and, b_and, b_not _ hz, b_not _ hz, b_one (by omega) hz, b_one (by omega) hz]
  obtain ⟨o, ho, eo⟩ := small10 (x := ((sin &&& (((1 : Int32) <<< (nI i &&& 31)) ^^^ (-1))) &&& (((1 : Int32) <<< (nI j &&& 31)) ^^^ (-1)))) (fun z a b => by rw [hob z b, hsin z a b]; rfl)
  rw [eo] at hob ⊢
  have hO : ∀ q, q < 1024 → ((nI q &&& (nI o ^^^ (-1))) = 0 ↔ (nI q &&& (sin ^^^ (-1))) = 0 ∧ bt (nI q) i = false ∧ bt (nI q) j = false) := by
    intro q hq
    rw [win_iff, win_iff]
    constructor
    · intro h
      refine ⟨fun z hz hb => ?_, ?_, ?_⟩
      · have := h z hz hb
        rw [hob z hz, Bool.and_eq_true, Bool.and_eq_true] at this
        exact this.1.1
      · cases c : bt (nI q) i
        · rfl
        · have := h i (by omega) c
          rw [hob i (by omega)] at this
          simp at this
      · cases c : bt (nI q) j
        · rfl
        · have := h j (by omega) c
          rw [hob j (by omega)] at this
          simp at this
    · rintro ⟨h1, h2, h3⟩ z hz hb
      rw [hob z hz, h1 z hz hb, Bool.true_and]
      have e1 : ¬ z = i := fun e => by rw [e, h2] at hb; cases hb
      have e2 : ¬ z = j := fun e => by rw [e, h3] at hb; cases hb
      rw [decide_eq_false e1, decide_eq_false e2]; rfl
  obtain ⟨v, a1, a2, a3⟩ := noLess_20 (bits := bits) (tin := sin) hi hj ho FU 0 (by unfold FU; omega) (by omega) (fun z hz => by omega)
  obtain ⟨w, b1, b2, b3⟩ := isWorth_2 hi hj hsin hca hO FU 0 (by unfold FU; omega) (by omega) (fun z hz => by omega)
  rw [nI_0] at a1 b1
  have e := v01_eq a2 b2 a3 b3
  subst e
  exact ⟨v, a1, b1⟩
