/-! power: the greatest common part, counts, swings and turns -/
theorem l0_cmp {b : Nat} (hb : b < 2 ^ 62) : (lg_cmp (lN b) (0 : Int64)) = 0 ↔ b = 0 := by
  rw [lg_cmp_eq, show (0 : Int64) = lN 0 from rfl, pk_lEQ (by omega) (by omega)]
theorem gnzl_n {α : Type} {b : Nat} (h0 : 0 < b) (hb : b < 2 ^ 62) (x : Option α) : gnzl (lN b) x = x := by
  unfold gnzl
  rw [if_neg (fun e => by rw [show (0 : Int64) = lN 0 from rfl, pk_lEQ (by omega) (by omega)] at e; omega)]
theorem gcd_step (a b : Nat) : Nat.gcd b (a % b) = Nat.gcd a b := by
  rw [Nat.gcd_comm b, ← Nat.gcd_rec, Nat.gcd_comm]
theorem mod_half {b c : Nat} (h0 : 0 < c) (h : c ≤ b) : 2 * (b % c) < b := by
  have h1 := Nat.mod_lt b h0
  have h2 : b % c = (b - c) % c := by rw [Nat.mod_eq_sub_mod h]
  have h3 := Nat.mod_le (b - c) c
  omega
theorem red_9 (x0 : Int64) : ∀ (k fuel a b n : Nat), a < 2 ^ 62 → b < 2 ^ k → k ≤ 40 → n + 2 * k + 1 ≤ 100 → 2 * k + 1 < fuel → F_X11_reduced_9 x0 fuel (lN a) (lN b) (nI n) = F_X11_reduced_44 x0 (lN (Nat.gcd a b)) := by
  intro k
  induction k with
  | zero =>
    intro fuel a b n ha hb hk hn hf
    obtain ⟨f, rfl⟩ : ∃ f, fuel = f + 1 := ⟨fuel - 1, by omega⟩
    have e : b = 0 := by simp at hb; omega
    subst e
    rw [F_X11_reduced_9, if_neg (show ¬ (100 : Int32) ≤ nI n from nI_ge (b := 100) (by omega) (by omega)), if_pos ((l0_cmp (by omega)).mpr rfl), Nat.gcd_zero_right]
  | succ k ih =>
    intro fuel a b n ha hb hk hn hf
    obtain ⟨f, rfl⟩ : ∃ f, fuel = f + 1 + 1 := ⟨fuel - 2, by omega⟩
    have hb62 : b < 2 ^ 62 := Nat.lt_of_lt_of_le hb (Nat.pow_le_pow_right (by omega) (by omega))
    rw [F_X11_reduced_9, if_neg (show ¬ (100 : Int32) ≤ nI n from nI_ge (b := 100) (by omega) (by omega))]
    by_cases c : b = 0
    · subst c
      rw [if_pos ((l0_cmp (by omega)).mpr rfl), Nat.gcd_zero_right]
    · have hm := Nat.mod_lt a (show 0 < b by omega)
      rw [if_neg (fun q => c ((l0_cmp hb62).mp q)), gnzl_n (by omega) hb62, pk_lRem (by omega) (by omega) (by omega), nI_1, F_X11_reduced_9, if_neg (show ¬ (100 : Int32) ≤ nI (n + 1) from nI_ge (b := 100) (by omega) (by omega))]
      by_cases c2 : a % b = 0
      · rw [if_pos ((l0_cmp (by omega)).mpr c2), ← gcd_step a b, c2, Nat.gcd_zero_right]
      · have hh := mod_half (show 0 < a % b by omega) (show a % b ≤ b by omega)
        rw [Nat.pow_succ] at hb
        rw [if_neg (fun q => c2 ((l0_cmp (by omega)).mp q)), gnzl_n (by omega) (by omega), pk_lRem (by omega) (by omega) (by omega), nI_1, ih f (a % b) (b % (a % b)) (n + 1 + 1) (by omega) (by omega) (by omega) (by omega) (by omega), gcd_step b (a % b), gcd_step]
theorem com_6 : ∀ (k fuel a b : Nat), a < 2 ^ 62 → b < 2 ^ k → k ≤ 40 → 2 * k + 1 < fuel → F_X12_common_6 fuel (lN a) (lN b) = some (lN (Nat.gcd a b)) := by
  intro k
  induction k with
  | zero =>
    intro fuel a b ha hb hk hf
    obtain ⟨f, rfl⟩ : ∃ f, fuel = f + 1 := ⟨fuel - 1, by omega⟩
    have e : b = 0 := by simp at hb; omega
    subst e
    rw [F_X12_common_6, if_pos ((l0_cmp (by omega)).mpr rfl), Nat.gcd_zero_right]
  | succ k ih =>
    intro fuel a b ha hb hk hf
    obtain ⟨f, rfl⟩ : ∃ f, fuel = f + 1 + 1 := ⟨fuel - 2, by omega⟩
    have hb62 : b < 2 ^ 62 := Nat.lt_of_lt_of_le hb (Nat.pow_le_pow_right (by omega) (by omega))
    rw [F_X12_common_6]
    by_cases c : b = 0
    · subst c
      rw [if_pos ((l0_cmp (by omega)).mpr rfl), Nat.gcd_zero_right]
    · have hm := Nat.mod_lt a (show 0 < b by omega)
      rw [if_neg (fun q => c ((l0_cmp hb62).mp q)), gnzl_n (by omega) hb62, pk_lRem (by omega) (by omega) (by omega), F_X12_common_6]
      by_cases c2 : a % b = 0
      · rw [if_pos ((l0_cmp (by omega)).mpr c2), ← gcd_step a b, c2, Nat.gcd_zero_right]
      · have hh := mod_half (show 0 < a % b by omega) (show a % b ≤ b by omega)
        rw [Nat.pow_succ] at hb
        rw [if_neg (fun q => c2 ((l0_cmp (by omega)).mp q)), gnzl_n (by omega) (by omega), pk_lRem (by omega) (by omega) (by omega), ih f (a % b) (b % (a % b)) (by omega) (by omega) (by omega) (by omega), gcd_step b (a % b), gcd_step]
theorem gcd_pos' {a b : Nat} (h : 0 < a ∨ 0 < b) : 0 < Nat.gcd a b := by
  rcases h with h | h
  · exact Nat.gcd_pos_of_pos_left _ h
  · exact Nat.gcd_pos_of_pos_right _ h
theorem gcd_lt {a b : Nat} (h : 0 < a ∨ 0 < b) (ha : a < 2 ^ 30) (hb : b < 2 ^ 30) : Nat.gcd a b < 2 ^ 30 := by
  rcases h with h | h
  · exact Nat.lt_of_le_of_lt (Nat.gcd_le_left _ h) ha
  · exact Nat.lt_of_le_of_lt (Nat.gcd_le_right _ h) hb
theorem reduced_s {a b : Nat} (ha : a < 2 ^ 30) (hb : b < 2 ^ 30) (h : 0 < a ∨ 0 < b) : F_X11_reduced (lN a) (lN b) = some (lN (a / Nat.gcd a b)) := by
  have h1 := gcd_pos' h
  have h2 := gcd_lt h ha hb
  unfold F_X11_reduced
  have h9 := red_9 (lN a) 30 FU a b 0 (by omega) hb (by omega) (by omega) (by unfold FU; omega)
  rw [nI_0] at h9
  rw [h9]
  unfold F_X11_reduced_44
  rw [if_neg (fun q => by rw [l0_cmp (by omega)] at q; omega), gnzl_n h1 (by omega), pk_lDiv (by omega) h1 (by omega)]
theorem common_s {a b : Nat} (ha : a < 2 ^ 30) (hb : b < 2 ^ 30) : F_X12_common (lN a) (lN b) = some (lN (Nat.gcd a b)) := by
  unfold F_X12_common
  exact com_6 30 FU a b (by omega) hb (by omega) (by unfold FU; omega)
/-- how many of a set's first n -/
def hN (k : Nat) : Nat → Nat
  | 0 => 0
  | n + 1 => if k.testBit n = true then hN k n + 1 else hN k n
theorem hSum_N (k : Nat) : ∀ n, n ≤ 32 → hSum (nI k) n = nI (hN k n) := by
  intro n
  induction n with
  | zero => intro _; rfl
  | succ n ih =>
    intro hn
    rw [hSum, hN, ih (by omega), bt_nI (by omega)]
    by_cases c : k.testBit n = true
    · rw [if_pos c, if_pos c, nI_1]
    · rw [if_neg c, if_neg c]
theorem hN_le (k : Nat) : ∀ n, hN k n ≤ n := by
  intro n
  induction n with
  | zero => exact Nat.le_refl _
  | succ n ih =>
    rw [hN]
    by_cases c : k.testBit n = true
    · rw [if_pos c]; omega
    · rw [if_neg c]; omega
theorem hN_mono {a b : Nat} : ∀ n, (∀ i, i < n → a.testBit i = true → b.testBit i = true) → hN a n ≤ hN b n := by
  intro n
  induction n with
  | zero => intro _; exact Nat.le_refl _
  | succ n ih =>
    intro h
    have := ih (fun i hi => h i (by omega))
    rw [hN, hN]
    by_cases c : a.testBit n = true
    · rw [if_pos c, if_pos (h n (by omega) c)]; omega
    · rw [if_neg c]
      by_cases c2 : b.testBit n = true
      · rw [if_pos c2]; omega
      · rw [if_neg c2]; exact this
theorem hN_more {a b m : Nat} (h1 : a.testBit m = false) (h2 : b.testBit m = true) : ∀ n, m < n → (∀ i, i < n → a.testBit i = true → b.testBit i = true) → hN a n + 1 ≤ hN b n := by
  intro n
  induction n with
  | zero => intro h; omega
  | succ n ih =>
    intro hm h
    rw [hN, hN]
    by_cases e : m = n
    · subst e
      have := hN_mono (a := a) (b := b) m (fun i hi => h i (by omega))
      rw [if_neg (by rw [h1]; decide), if_pos h2]; omega
    · have := ih (by omega) (fun i hi => h i (by omega))
      by_cases c : a.testBit n = true
      · rw [if_pos c, if_pos (h n (by omega) c)]; omega
      · rw [if_neg c]
        by_cases c2 : b.testBit n = true
        · rw [if_pos c2]; omega
        · rw [if_neg c2]; exact this
theorem bitCount_N {k : Nat} (hk : k < 1024) : F_J6_bitCount_0f7a4 (nI k) = some (nI (hN k 10)) := by
  rw [bitCount_s k hk, hSum_N k 10 (by omega)]
theorem ones_mono : ∀ (n m : Nat) (a x v : Int32), F_X12_ones_4 n a x = some v → F_X12_ones_4 (n + m) a x = some v := by
  intro n
  induction n with
  | zero => intro m a x v h; rw [F_X12_ones_4] at h; cases h
  | succ n ih =>
    intro m a x v h
    rw [F_X12_ones_4] at h
    rw [show n + 1 + m = (n + m) + 1 by omega, F_X12_ones_4]
    by_cases c : x = 0
    · rw [if_pos c] at h ⊢; exact h
    · rw [if_neg c] at h ⊢; exact ih m _ _ _ h
set_option maxRecDepth 100000 in
theorem ones_dec : ∀ k, k < 1024 → F_X12_ones_4 11 0 (nI k) = some (hSum (nI k) 10) := by decide +kernel
theorem ones_s {k : Nat} (hk : k < 1024) : F_X12_ones (nI k) = some (nI (hN k 10)) := by
  unfold F_X12_ones
  have h := ones_mono 11 (FU - 11) 0 (nI k) _ (ones_dec k hk)
  rw [show 11 + (FU - 11) = FU by unfold FU; omega, hSum_N k 10 (by omega)] at h
  exact h
def fct : Nat → Nat
  | 0 => 1
  | n + 1 => (n + 1) * fct n
theorem fact_mono (x : Int32) : ∀ (n m : Nat) (a v : Int64) (b : Int32), F_X9_factorial_4 x n a b = some v → F_X9_factorial_4 x (n + m) a b = some v := by
  intro n
  induction n with
  | zero => intro m a v b h; rw [F_X9_factorial_4] at h; cases h
  | succ n ih =>
    intro m a v b h
    rw [F_X9_factorial_4] at h
    rw [show n + 1 + m = (n + m) + 1 by omega, F_X9_factorial_4]
    by_cases c : x < b
    · rw [if_pos c] at h ⊢; exact h
    · rw [if_neg c] at h ⊢; exact ih m _ _ _ h
theorem fact_dec : ∀ k, k < 11 → F_X9_factorial_4 (nI k) 11 1 2 = some (lN (fct k)) := by decide +kernel
theorem factorial_s {k : Nat} (hk : k < 11) : F_X9_factorial (nI k) = some (lN (fct k)) := by
  unfold F_X9_factorial
  have h := fact_mono (nI k) 11 (FU - 11) 1 _ 2 (fact_dec k hk)
  rw [show 11 + (FU - 11) = FU by unfold FU; omega] at h
  exact h
theorem orders_eq (x : Int32) : F_X12_orders x = F_X9_factorial x := by
  have key : ∀ (n : Nat) (a : Int64) (b : Int32), F_X12_orders_5 x n a b = F_X9_factorial_4 x n a b := by
    intro n
    induction n with
    | zero => intro a b; rw [F_X12_orders_5, F_X9_factorial_4]
    | succ n ih => intro a b; rw [F_X12_orders_5, F_X9_factorial_4, ih]
  unfold F_X12_orders F_X9_factorial
  exact key _ _ _
theorem orders_s {k : Nat} (hk : k < 11) : F_X12_orders (nI k) = some (lN (fct k)) := by rw [orders_eq, factorial_s hk]
theorem fct_bound : ∀ a, a < 10 → ∀ b, b < 10 → a + b ≤ 9 → fct a * fct b ≤ 362880 := by decide +kernel
theorem fct_pos : ∀ a, a < 11 → 0 < fct a ∧ fct a < 2 ^ 30 := by decide +kernel
/-- a swing of member m -/
def swg (sin : Int32) (bits : Nat → Int32) (m q : Nat) : Bool := decide ((nI q &&& (sin ^^^ (-1))) = 0) && !bt (nI q) m && !tb bits q && tb bits (q ||| 2 ^ m)
theorem swg_iff {sin : Int32} {bits : Nat → Int32} {m q : Nat} : swg sin bits m q = true ↔ (nI q &&& (sin ^^^ (-1))) = 0 ∧ bt (nI q) m = false ∧ tb bits q = false ∧ tb bits (q ||| 2 ^ m) = true := by
  unfold swg
  rw [Bool.and_eq_true, Bool.and_eq_true, Bool.and_eq_true, decide_eq_true_iff, Bool.not_eq_true', Bool.not_eq_true', and_assoc, and_assoc]
theorem win_less (sin : Int32) {q m : Nat} (hm : m < 10) : (nI q &&& ((sin &&& (((1 : Int32) <<< (nI m &&& 31)) ^^^ (-1))) ^^^ (-1))) = 0 ↔ (nI q &&& (sin ^^^ (-1))) = 0 ∧ bt (nI q) m = false := by
  have hob : ∀ z, z < 32 → bt (sin &&& (((1 : Int32) <<< (nI m &&& 31)) ^^^ (-1))) z = (bt sin z && !decide (z = m)) := by
    intro z hz
    rw [b_and, b_not _ hz, b_one (by omega) hz]
  rw [win_iff, win_iff]
  constructor
  · intro h
    refine ⟨fun z hz hb => ?_, ?_⟩
    · have := h z hz hb
      rw [hob z hz, Bool.and_eq_true] at this
      exact this.1
    · cases c : bt (nI q) m
      · rfl
      · have := h m (by omega) c
        rw [hob m (by omega)] at this
        simp at this
  · rintro ⟨h1, h2⟩ z hz hb
    have e1 : ¬ z = m := fun e => by rw [e, h2] at hb; cases hb
    rw [hob z hz, h1 z hz hb, Bool.true_and, decide_eq_false e1]; rfl
theorem isSwing_s {sin : Int32} {bits : Nat → Int32} {q m : Nat} (hq : q < 1024) (hm : m < 10) : F_X9_isSwing (nI q) ((1 : Int32) <<< (nI m &&& 31)) sin bits = some (if swg sin bits m q = true then 1 else 0) := by
  unfold F_X9_isSwing
  rw [isWithin_s, at_s hq, or_one hq hm, at_s (or_lt hq hm)]
  simp only [Option.bind_some, win_less sin hm]
  by_cases c1 : (nI q &&& (sin ^^^ (-1))) = 0 ∧ bt (nI q) m = false
  · rw [if_pos c1, if_neg one_ne]
    by_cases c2 : tb bits q = true
    · rw [if_pos c2, if_neg one_ne, if_neg (fun h => by have := (swg_iff.mp h).2.2.1; rw [c2] at this; cases this)]
    · rw [if_neg c2, if_pos rfl]
      by_cases c3 : tb bits (q ||| 2 ^ m) = true
      · rw [if_pos c3, if_neg one_ne, if_pos (swg_iff.mpr ⟨c1.1, c1.2, by simpa using c2, c3⟩)]
      · rw [if_neg c3, if_pos rfl, if_neg (fun h => c3 (swg_iff.mp h).2.2.2)]
  · rw [if_neg c1, if_pos rfl, if_neg (fun h => c1 ⟨(swg_iff.mp h).1, (swg_iff.mp h).2.1⟩)]
/-- swings and turns among the first sets -/
def swN (sin : Int32) (bits : Nat → Int32) (m : Nat) : Nat → Nat
  | 0 => 0
  | q + 1 => if swg sin bits m q = true then swN sin bits m q + 1 else swN sin bits m q
def tuN (sin : Int32) (bits : Nat → Int32) (m c : Nat) : Nat → Nat
  | 0 => 0
  | q + 1 => if swg sin bits m q = true then tuN sin bits m c q + fct (hN q 10) * fct (c - 1 - hN q 10) else tuN sin bits m c q
theorem swN_le {sin : Int32} {bits : Nat → Int32} {m : Nat} : ∀ q, swN sin bits m q ≤ q := by
  intro q
  induction q with
  | zero => exact Nat.le_refl _
  | succ q ih =>
    rw [swN]
    by_cases c : swg sin bits m q = true
    · rw [if_pos c]; omega
    · rw [if_neg c]; omega
/-- a swing's set is smaller than those in -/
theorem swg_less {kin m q : Nat} {bits : Nat → Int32} (hk : kin < 1024) (hm : m < 10) (hq : q < 1024) (hb : bt (nI kin) m = true) (h : swg (nI kin) bits m q = true) : hN q 10 + 1 ≤ hN kin 10 := by
  obtain ⟨h1, h2, -, -⟩ := swg_iff.mp h
  rw [bt_nI (by omega)] at h2 hb
  exact hN_more h2 hb 10 hm (fun i hi => (win_nI hq hk).mp h1 i hi)
theorem tuN_le {kin m : Nat} {bits : Nat → Int32} (hk : kin < 1024) (hm : m < 10) (hb : bt (nI kin) m = true) : ∀ q, q ≤ 1024 → tuN (nI kin) bits m (hN kin 10) q ≤ q * 362880 := by
  intro q
  induction q with
  | zero => intro _; exact Nat.le_refl _
  | succ q ih =>
    intro hq
    have := ih (by omega)
    rw [tuN]
    by_cases c : swg (nI kin) bits m q = true
    · rw [if_pos c]
      have h1 := swg_less hk hm (by omega) hb c
      have h2 := hN_le kin 10
      have h3 := fct_bound (hN q 10) (by omega) (hN kin 10 - 1 - hN q 10) (by omega) (by omega)
      omega
    · rw [if_neg c]; exact Nat.le_trans this (Nat.mul_le_mul_right _ (Nat.le_succ q))
theorem swg_big {kin m q : Nat} {bits : Nat → Int32} (hk : kin < 1024) (hq : q < 1024) (h : kin < q) : ¬ swg (nI kin) bits m q = true := fun c => by
  have := win_le hq hk (swg_iff.mp c).1
  omega
theorem swN_cut {kin m : Nat} {bits : Nat → Int32} (hk : kin < 1024) : ∀ t, kin + 1 + t ≤ 1024 → swN (nI kin) bits m (kin + 1 + t) = swN (nI kin) bits m (kin + 1) := by
  intro t
  induction t with
  | zero => intro _; rfl
  | succ t ih =>
    intro h
    rw [← Nat.add_assoc, swN, if_neg (swg_big hk (by omega) (by omega)), ih (by omega)]
theorem tuN_cut {kin m c : Nat} {bits : Nat → Int32} (hk : kin < 1024) : ∀ t, kin + 1 + t ≤ 1024 → tuN (nI kin) bits m c (kin + 1 + t) = tuN (nI kin) bits m c (kin + 1) := by
  intro t
  induction t with
  | zero => intro _; rfl
  | succ t ih =>
    intro h
    rw [← Nat.add_assoc, tuN, if_neg (swg_big hk (by omega) (by omega)), ih (by omega)]
theorem swings_9 {kin m : Nat} {bits : Nat → Int32} (hk : kin < 1024) (hm : m < 10) : ∀ (fuel q : Nat), 1025 - q < fuel → q ≤ kin + 1 → F_X9_swings_9 (nI kin) bits fuel ((1 : Int32) <<< (nI m &&& 31)) (lN (swN (nI kin) bits m q)) (nI q) = some (lN (swN (nI kin) bits m 1024)) := by
  intro fuel
  induction fuel with
  | zero => intro q h; omega
  | succ n ih =>
    intro q h hq
    rw [F_X9_swings_9]
    rcases Nat.lt_or_ge kin q with hlt | hge
    · have e : q = kin + 1 := by omega
      have hc := swN_cut (bits := bits) (m := m) hk (1024 - (kin + 1)) (by omega)
      rw [show kin + 1 + (1024 - (kin + 1)) = 1024 by omega] at hc
      rw [if_pos (nI_lt hlt (by omega)), e, hc]
    · have next := ih (q + 1) (by omega) (by omega)
      rw [if_neg (nI_nlt hge (by omega)), isSwing_s (by omega) hm, Option.bind_some, nI_1]
      rw [swN] at next
      by_cases c : swg (nI kin) bits m q = true
      · rw [if_pos c] at next
        rw [if_pos c, if_neg one_ne, lN_1]; exact next
      · rw [if_neg c] at next
        rw [if_neg c, if_pos rfl]; exact next
theorem swings_s {kin m : Nat} {bits : Nat → Int32} (hk : kin < 1024) (hm : m < 10) : F_X9_swings (nI m) (nI kin) bits = some (lN (swN (nI kin) bits m 1024)) := by
  unfold F_X9_swings
  have h := swings_9 (bits := bits) hk hm FU 0 (by unfold FU; omega) (by omega)
  rw [nI_0] at h
  exact h
theorem turns_20 {kin m : Nat} {bits : Nat → Int32} (hk : kin < 1024) (hm : m < 10) (hb : bt (nI kin) m = true) : ∀ (fuel q : Nat), 1025 - q < fuel → q ≤ kin + 1 → F_X9_turns_20 (nI kin) bits fuel ((1 : Int32) <<< (nI m &&& 31)) (nI (hN kin 10 - 1)) (lN (tuN (nI kin) bits m (hN kin 10) q)) (nI q) = some (lN (tuN (nI kin) bits m (hN kin 10) 1024)) := by
  intro fuel
  induction fuel with
  | zero => intro q h; omega
  | succ n ih =>
    intro q h hq
    rw [F_X9_turns_20]
    rcases Nat.lt_or_ge kin q with hlt | hge
    · have e : q = kin + 1 := by omega
      have hc := tuN_cut (bits := bits) (m := m) (c := hN kin 10) hk (1024 - (kin + 1)) (by omega)
      rw [show kin + 1 + (1024 - (kin + 1)) = 1024 by omega] at hc
      rw [if_pos (nI_lt hlt (by omega)), e, hc]
    · have next := ih (q + 1) (by omega) (by omega)
      rw [if_neg (nI_nlt hge (by omega)), isSwing_s (by omega) hm, Option.bind_some, nI_1]
      rw [tuN] at next
      by_cases c : swg (nI kin) bits m q = true
      · have h1 := swg_less hk hm (by omega) hb c
        have h2 := hN_le kin 10
        rw [if_pos c] at next
        rw [if_pos c, if_neg one_ne, bitCount_N (by omega), Option.bind_some, factorial_s (by omega), Option.bind_some, pk_sub (by omega), factorial_s (by omega), Option.bind_some, lN_mul, lN_add]; exact next
      · rw [if_neg c] at next
        rw [if_neg c, if_pos rfl]; exact next
theorem turns_s {kin m : Nat} {bits : Nat → Int32} (hk : kin < 1024) (hm : m < 10) (hb : bt (nI kin) m = true) (h0 : 0 < hN kin 10) : F_X9_turns (nI m) (nI kin) bits = some (lN (tuN (nI kin) bits m (hN kin 10) 1024)) := by
  unfold F_X9_turns
  have h := turns_20 (bits := bits) hk hm hb FU 0 (by unfold FU; omega) (by omega)
  rw [nI_0] at h
  rw [bitCount_N hk, Option.bind_some, show (1 : Int32) = nI 1 from rfl, pk_sub (by omega)]
  exact h
theorem shl_dec : ∀ k, k < 10 → (1 : Int64) <<< ((nI k).toInt64 &&& 63) = lN (2 ^ k) := by decide +kernel
theorem setsWithoutOne_s {kin : Nat} (hk : kin < 1024) (h0 : 0 < hN kin 10) : F_X9_setsWithoutOne (nI kin) = some (lN (2 ^ (hN kin 10 - 1))) := by
  have h2 := hN_le kin 10
  unfold F_X9_setsWithoutOne
  rw [bitCount_N hk, Option.bind_some, show (1 : Int32) = nI 1 from rfl, pk_sub (by omega), if_neg (nI_pos (by omega)), shl_dec _ (by omega)]
theorem orders9_s {kin : Nat} (hk : kin < 1024) : F_X9_orders (nI kin) = some (lN (fct (hN kin 10))) := by
  have h2 := hN_le kin 10
  unfold F_X9_orders
  rw [bitCount_N hk, Option.bind_some, factorial_s (by omega), Option.bind_some]
theorem power_65 {M kin m : Nat} {bits ca arg cm op blo day mem tld wei rb st rw0 : Nat → Int32} {x NN' vd vk told we : Int32} (hk : kin < 1024) (hm : m < 10) (hb : bt (nI kin) m = true) (hca : ∀ z, z < 1024 → ca z = if tb bits z = true then 1 else 0) :
    ∀ (fuel q : Nat), 1024 - q < fuel → q ≤ 1024 → F_X12_power_65 (nI m) x (nI M) NN' vd vk arg cm op blo day mem tld wei fuel (lN (swN (nI kin) bits m q)) (lN (tuN (nI kin) bits m (hN kin 10) q)) (nI q) (nI kin) (nI (hN kin 10)) told we rb ca st rw0 =
      F_X12_power_164 x (nI M) NN' vd vk arg cm op blo day mem tld wei (lN (swN (nI kin) bits m 1024)) (lN (tuN (nI kin) bits m (hN kin 10) 1024)) (nI kin) (nI (hN kin 10)) told we rb ca st rw0 := by
  intro fuel
  induction fuel with
  | zero => intro q h; omega
  | succ n ih =>
    intro q h hq
    rw [F_X12_power_65]
    rcases Nat.lt_or_ge q 1024 with hlt | hge
    · have next := ih (q + 1) (by omega) (by omega)
      rw [swN, tuN] at next
      rw [if_neg (show ¬ (1024 : Int32) ≤ nI q from nI_ge (b := 1024) hlt (by omega)), isSet_s (nI_hi hk), isWithin_s, isOf_s _ (show m < 32 by omega), nI_1, or_one hlt hm]
      simp only [Option.bind_some, gin_n hlt (show 1024 < 2 ^ 31 by omega), gin_n (or_lt hlt hm) (show 1024 < 2 ^ 31 by omega), nI_clamp (show q < 2 ^ 31 by omega), nI_clamp (show q ||| 2 ^ m < 2 ^ 31 by have := or_lt hlt hm; omega), hca _ hlt, hca _ (or_lt hlt hm)]
      by_cases c : swg (nI kin) bits m q = true
      · obtain ⟨d1, d2, d3, d4⟩ := swg_iff.mp c
        have h1 := swg_less hk hm (by omega) hb c
        have h2 := hN_le kin 10
        rw [if_pos c, if_pos c] at next
        rw [if_pos d1, if_neg one_ne, if_neg (show ¬ bt (nI q) m = true by rw [d2]; decide), if_pos rfl, if_neg (show ¬ tb bits q = true by rw [d3]; decide), if_pos rfl, if_pos d4, if_neg one_ne, ones_s hlt, Option.bind_some, orders_s (by omega), Option.bind_some, Option.bind_some, pk_sub (by omega), show (1 : Int32) = nI 1 from rfl, pk_sub (by omega), orders_s (by omega), Option.bind_some, lN_1, lN_mul, lN_add, show hN kin 10 - hN q 10 - 1 = hN kin 10 - 1 - hN q 10 by omega]
        exact next
      · rw [if_neg c, if_neg c] at next
        rw [next]
        by_cases d1 : (nI q &&& (nI kin ^^^ (-1))) = 0
        · rw [if_pos d1, if_neg one_ne]
          by_cases d2 : bt (nI q) m = true
          · rw [if_pos d2, if_neg one_ne]
          · rw [if_neg d2, if_pos rfl]
            by_cases d3 : tb bits q = true
            · rw [if_pos d3, if_neg one_ne]
            · rw [if_neg d3, if_pos rfl, if_neg (fun d4 => c (swg_iff.mpr ⟨d1, by simpa using d2, by simpa using d3, d4⟩)), if_pos rfl]
        · rw [if_neg d1, if_pos rfl]
    · have e : q = 1024 := by omega
      subst e
      rw [if_pos (show (1024 : Int32) ≤ nI 1024 from nI_le (a := 1024) (Nat.le_refl _) (by omega))]
