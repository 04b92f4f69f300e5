/-! trade: figures to the base of three, and what a trade is -/
def bN (q i : Nat) : Nat := if q.testBit i = true then 1 else 0
def thr (q : Nat) : Nat → Nat
  | 0 => 0
  | m + 1 => thr q m + bN q m * 3 ^ m
theorem bN_01 (q i : Nat) : bN q i = 0 ∨ bN q i = 1 := by unfold bN; split <;> omega
theorem bN_1 {q i : Nat} : bN q i = 1 ↔ q.testBit i = true := by
  unfold bN
  by_cases c : q.testBit i = true
  · rw [if_pos c]; simp [c]
  · rw [if_neg c]; simp [c]
theorem thr_lt (q : Nat) : ∀ n, 2 * thr q n < 3 ^ n := by
  intro n
  induction n with
  | zero => rw [thr]; decide
  | succ n ih =>
    rw [thr, Nat.pow_succ]
    generalize 3 ^ n = p at ih ⊢
    rcases bN_01 q n with e | e <;> rw [e] <;> omega
theorem thr_10 (q : Nat) : thr q 10 ≤ 29524 := by
  have := thr_lt q 10
  rw [show (3 : Nat) ^ 10 = 59049 from rfl] at this
  omega
theorem thr_dig {a b c d : Nat} : ∀ n, thr c n + thr d n = thr a n + thr b n → ∀ i, i < n → bN c i + bN d i = bN a i + bN b i := by
  intro n
  induction n with
  | zero => intro _ i h; omega
  | succ n ih =>
    intro h i hi
    rw [thr, thr, thr, thr] at h
    have h1 := thr_lt a n
    have h2 := thr_lt b n
    have h3 := thr_lt c n
    have h4 := thr_lt d n
    have key : thr c n + thr d n = thr a n + thr b n ∧ bN c n + bN d n = bN a n + bN b n := by
      generalize 3 ^ n = p at h h1 h2 h3 h4
      rcases bN_01 a n with e1 | e1 <;> rcases bN_01 b n with e2 | e2 <;> rcases bN_01 c n with e3 | e3 <;> rcases bN_01 d n with e4 | e4 <;> rw [e1, e2, e3, e4] at h ⊢ <;> omega
    by_cases e : i = n
    · rw [e]; exact key.2
    · exact ih key.1 i (by omega)
theorem thr_sum {a b c d : Nat} : ∀ n, (∀ i, i < n → bN c i + bN d i = bN a i + bN b i) → thr c n + thr d n = thr a n + thr b n := by
  intro n
  induction n with
  | zero => intro _; rfl
  | succ n ih =>
    intro h
    have h1 := ih (fun i hi => h i (by omega))
    have h2 := h n (by omega)
    rw [thr, thr, thr, thr]
    generalize 3 ^ n = p
    rcases bN_01 a n with e1 | e1 <;> rcases bN_01 b n with e2 | e2 <;> rcases bN_01 c n with e3 | e3 <;> rcases bN_01 d n with e4 | e4 <;> rw [e1, e2, e3, e4] at h2 ⊢ <;> omega
/-- those that are in and do not carry -/
def ncr (kin : Nat) (bits : Nat → Int32) (q : Nat) : Prop := q &&& kin = q ∧ tb bits q = false
/-- c is the lesser of two that do not carry, with the figures' sum k -/
def LosP (kin : Nat) (bits : Nat → Int32) (c k : Nat) : Prop := ncr kin bits c ∧ ∃ d, c < d ∧ d < 1024 ∧ ncr kin bits d ∧ thr c 10 + thr d 10 = k
/-- the other one of two, told by a, b and c -/
def oth (a b c : Nat) : Nat := (a &&& b) ||| ((a ||| b) &&& (1023 ^^^ c))
def TrOut (kin : Nat) (bits : Nat → Int32) (t : Nat → Int32) : Prop :=
  ((∀ a b, a < b → b < 1024 → tb bits a = true → tb bits b = true → ∀ c, ¬ LosP kin bits c (thr a 10 + thr b 10)) ∧ t 0 = -1 ∧ t 1 = -1 ∧ t 2 = -1 ∧ t 3 = -1) ∨
  (∃ a b c, a < b ∧ b < 1024 ∧ tb bits a = true ∧ tb bits b = true ∧ LosP kin bits c (thr a 10 + thr b 10) ∧ (∀ c', c' < c → ¬ LosP kin bits c' (thr a 10 + thr b 10)) ∧
    (∀ a' b', a' < b' → b' < 1024 → tb bits a' = true → tb bits b' = true → (a' < a ∨ a' = a ∧ b' < b) → ∀ c, ¬ LosP kin bits c (thr a' 10 + thr b' 10)) ∧ t 0 = nI a ∧ t 1 = nI b ∧ t 2 = nI c ∧ t 3 = nI (oth a b c))
theorem TrOut.uniq {kin : Nat} {bits t t' : Nat → Int32} (h : TrOut kin bits t) (h' : TrOut kin bits t') : ∀ i, i < 4 → t i = t' i := by
  have four : t 0 = t' 0 ∧ t 1 = t' 1 ∧ t 2 = t' 2 ∧ t 3 = t' 3 := by
    rcases h with ⟨h1, e0, e1, e2, e3⟩ | ⟨a, b, c, hab, hb, ta, tbb, hL, hm, hf, e0, e1, e2, e3⟩
    · rcases h' with ⟨h1', f0, f1, f2, f3⟩ | ⟨a', b', c', hab', hb', ta', tb', hL', hm', hf', f0, f1, f2, f3⟩
      · rw [e0, e1, e2, e3, f0, f1, f2, f3]; exact ⟨rfl, rfl, rfl, rfl⟩
      · exact absurd hL' (h1 a' b' hab' hb' ta' tb' c')
    · rcases h' with ⟨h1', f0, f1, f2, f3⟩ | ⟨a', b', c', hab', hb', ta', tb', hL', hm', hf', f0, f1, f2, f3⟩
      · exact absurd hL (h1' a b hab hb ta tbb c)
      · have ea : a = a' ∧ b = b' := by
          rcases Nat.lt_trichotomy a a' with q | q | q
          · exact absurd hL (hf' a b hab hb ta tbb (Or.inl q) c)
          · rcases Nat.lt_trichotomy b b' with z | z | z
            · exact absurd hL (hf' a b hab hb ta tbb (Or.inr ⟨q, z⟩) c)
            · exact ⟨q, z⟩
            · exact absurd hL' (hf a' b' hab' hb' ta' tb' (Or.inr ⟨q.symm, z⟩) c')
          · exact absurd hL' (hf a' b' hab' hb' ta' tb' (Or.inl q) c')
        obtain ⟨rfl, rfl⟩ := ea
        have ec : c = c' := by
          rcases Nat.lt_trichotomy c c' with q | q | q
          · exact absurd hL (hm' c q)
          · exact q
          · exact absurd hL' (hm c' q)
        subst ec
        rw [e0, e1, e2, e3, f0, f1, f2, f3]; exact ⟨rfl, rfl, rfl, rfl⟩
  intro i hi
  rcases (show i = 0 ∨ i = 1 ∨ i = 2 ∨ i = 3 by omega) with e | e | e | e <;> subst e
  · exact four.1
  · exact four.2.1
  · exact four.2.2.1
  · exact four.2.2.2
theorem t1023 : ∀ i, i < 10 → (1023 : Nat).testBit i = true := by decide +kernel
theorem hi_f {a i : Nat} (ha : a < 1024) (hi : 10 ≤ i) : a.testBit i = false := Nat.testBit_lt_two_pow (Nat.lt_of_lt_of_le (show a < 2 ^ 10 from ha) (Nat.pow_le_pow_right (by omega) hi))
/-- of two sets that carry: what a lesser one of two is, told by sets alone -/
theorem los_iff {kin : Nat} {bits : Nat → Int32} (hk : kin < 1024) {a b c : Nat} (ha : a &&& kin = a) (hb : b &&& kin = b) (hc : ncr kin bits c) :
    LosP kin bits c (thr a 10 + thr b 10) ↔ c &&& (a ||| b) = c ∧ (a &&& b) &&& c = a &&& b ∧ c < (a &&& b) ||| ((a ^^^ b) &&& (1023 ^^^ c)) ∧ tb bits ((a &&& b) ||| ((a ^^^ b) &&& (1023 ^^^ c))) = false := by
  have ha1 : a < 1024 := Nat.lt_of_le_of_lt (sub_le ha) hk
  have hb1 : b < 1024 := Nat.lt_of_le_of_lt (sub_le hb) hk
  have hc1 : c < 1024 := Nat.lt_of_le_of_lt (sub_le hc.1) hk
  have hD : ∀ i, ((a &&& b) ||| ((a ^^^ b) &&& (1023 ^^^ c))).testBit i = ((a.testBit i && b.testBit i) || ((a.testBit i ^^ b.testBit i) && !c.testBit i)) := by
    intro i
    rw [Nat.testBit_or, Nat.testBit_and, Nat.testBit_and, Nat.testBit_xor, Nat.testBit_xor]
    rcases Nat.lt_or_ge i 10 with q | q
    · rw [t1023 i q, Bool.true_xor]
    · rw [hi_f ha1 q, hi_f hb1 q]; rfl
  constructor
  · rintro ⟨-, d, hcd, hd1, hd, hs⟩
    have hdig := thr_dig 10 hs
    have hbits : ∀ i, i < 10 → (c.testBit i = true → a.testBit i = true ∨ b.testBit i = true) ∧ (a.testBit i = true → b.testBit i = true → c.testBit i = true) ∧ d.testBit i = ((a.testBit i && b.testBit i) || ((a.testBit i ^^ b.testBit i) && !c.testBit i)) := by
      intro i hi
      have := hdig i hi
      unfold bN at this
      cases h1 : a.testBit i <;> cases h2 : b.testBit i <;> cases h3 : c.testBit i <;> cases h4 : d.testBit i <;> simp [h1, h2, h3, h4] at this ⊢
    have hde : d = (a &&& b) ||| ((a ^^^ b) &&& (1023 ^^^ c)) := by
      apply Nat.eq_of_testBit_eq
      intro i
      rw [hD i]
      rcases Nat.lt_or_ge i 10 with q | q
      · exact (hbits i q).2.2
      · rw [hi_f hd1 q, hi_f ha1 q, hi_f hb1 q]; rfl
    refine ⟨sub_bit.mpr (fun i hi => ?_), sub_bit.mpr (fun i hi => ?_), by rw [← hde]; exact hcd, by rw [← hde]; exact hd.2⟩
    · have hi10 := bit_lt hc1 hi
      rw [Nat.testBit_or, Bool.or_eq_true]
      exact (hbits i hi10).1 hi
    · rw [Nat.testBit_and, Bool.and_eq_true] at hi
      exact (hbits i (bit_lt ha1 hi.1)).2.1 hi.1 hi.2
  · rintro ⟨h1, h2, h3, h4⟩
    have hk' : ((a &&& b) ||| ((a ^^^ b) &&& (1023 ^^^ c))) &&& kin = (a &&& b) ||| ((a ^^^ b) &&& (1023 ^^^ c)) := by
      rw [sub_bit]
      intro i hi
      rw [hD i] at hi
      cases e1 : a.testBit i
      · cases e2 : b.testBit i
        · rw [e1, e2] at hi; simp at hi
        · exact sub_bit.mp hb i e2
      · exact sub_bit.mp ha i e1
    refine ⟨hc, _, h3, Nat.lt_of_le_of_lt (sub_le hk') hk, ⟨hk', h4⟩, thr_sum 10 (fun i hi => ?_)⟩
    have g1 := sub_bit.mp h1 i
    have g2 := sub_bit.mp h2 i
    rw [Nat.testBit_or] at g1
    rw [Nat.testBit_and] at g2
    unfold bN
    rw [hD i]
    cases e1 : a.testBit i <;> cases e2 : b.testBit i <;> cases e3 : c.testBit i <;> simp [e1, e2, e3] at g1 g2 ⊢
theorem oth_same {a b c : Nat} : (a &&& b) ||| ((a ^^^ b) &&& (1023 ^^^ c)) = oth a b c := by
  unfold oth
  apply Nat.eq_of_testBit_eq
  intro i
  rw [Nat.testBit_or, Nat.testBit_or, Nat.testBit_and, Nat.testBit_and, Nat.testBit_and, Nat.testBit_xor, Nat.testBit_or]
  cases a.testBit i <;> cases b.testBit i <;> simp
