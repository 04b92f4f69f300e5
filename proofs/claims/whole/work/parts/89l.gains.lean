/-! deal: what is foreseen -/
def les (q p : Nat) : Nat := q &&& (1023 ^^^ 2 ^ p)
theorem les_nI {q p : Nat} (hq : q < 1024) (hp : p < 10) : nI q &&& (((1 : Int32) <<< (nI p &&& 31)) ^^^ (-1)) = nI (les q p) := by
  rw [one_nI p hp, less_nI hq]; rfl
theorem les_bit {q p i : Nat} (hq : q < 1024) : (les q p).testBit i = (q.testBit i && decide (¬ i = p)) := by
  unfold les
  rw [Nat.testBit_and, Nat.testBit_xor, Nat.testBit_two_pow]
  rcases Nat.lt_or_ge i 10 with c | c
  · rw [t1023 i c, Bool.true_xor]
    congr 1
    by_cases e : i = p
    · subst e; simp
    · rw [decide_eq_false (show ¬ p = i from fun z => e z.symm), decide_eq_true e]; rfl
  · rw [hi_f hq c]; rfl
theorem les_sub {q p : Nat} : les q p &&& q = les q p := by
  unfold les
  rw [sub_bit]
  intro i hi
  rw [Nat.testBit_and, Bool.and_eq_true] at hi
  exact hi.1
theorem les_lt {q p : Nat} (hq : q < 1024) (hb : q.testBit p = true) : les q p < q := by
  have h1 := sub_le (les_sub (q := q) (p := p))
  rcases Nat.lt_or_ge (les q p) q with c | c
  · exact c
  · have e : les q p = q := by omega
    have : (les q p).testBit p = false := by rw [les_bit hq]; simp
    rw [e, hb] at this; cases this
theorem les_more {q p : Nat} (hq : q < 1024) (hp : p < 10) (hb : q.testBit p = true) : hN (les q p) 10 + 1 ≤ hN q 10 := by
  refine hN_more (m := p) ?_ hb 10 hp (fun i _ h => sub_bit.mp les_sub i h)
  rw [les_bit hq]; simp
theorem les_ge {q p : Nat} (hq : q < 1024) : ∀ n, hN q n ≤ hN (les q p) n + 1 ∧ (n ≤ p → hN q n = hN (les q p) n) := by
  intro n
  induction n with
  | zero => exact ⟨Nat.zero_le _, fun _ => rfl⟩
  | succ n ih =>
    rw [hN, hN, les_bit hq]
    by_cases e : n = p
    · subst e
      have := ih.2 (Nat.le_refl _)
      rw [decide_eq_false (fun z => z rfl), Bool.and_false, if_neg (show ¬ false = true by decide)]
      refine ⟨?_, fun h => by omega⟩
      by_cases c : q.testBit n = true
      · rw [if_pos c]; omega
      · rw [if_neg c]; omega
    · rw [decide_eq_true e, Bool.and_true]
      by_cases c : q.testBit n = true
      · rw [if_pos c, if_pos c]
        exact ⟨by omega, fun h => by rw [ih.2 (by omega)]⟩
      · rw [if_neg c, if_neg c]
        exact ⟨ih.1, fun h => ih.2 (by omega)⟩
theorem hN_pos {q : Nat} (hq : q < 1024) (h0 : 0 < q) : 0 < hN q 10 := by
  obtain ⟨m, hm, _⟩ := sub_miss (p := 0) (q := q) (by rw [Nat.zero_and]) h0
  have := hN_more (a := 0) (b := q) (m := m) (by simp) hm 10 (bit_lt hq hm) (fun i _ h => by simp at h)
  omega
theorem hN_256 {q : Nat} (hq : q < 256) : hN q 10 ≤ 8 := by
  have h1 : hN q 10 = hN q 8 := by
    rw [hN, hN, if_neg, if_neg]
    · rw [Nat.testBit_lt_two_pow (show q < 2 ^ 8 from hq)]; decide
    · rw [Nat.testBit_lt_two_pow (Nat.lt_of_lt_of_le (show q < 2 ^ 8 from hq) (by decide))]; decide
  rw [h1]; exact hN_le q 8
theorem priceOf_s {va : Nat → Int32} {p b : Nat} (hp : p < 8) (hb : b < 6) : F_X0_priceOf (nI p) (nI b) va = some (va (6 * p + b)) := by
  unfold F_X0_priceOf
  rw [show (8 : Int32) = nI 8 from rfl, show (6 : Int32) = nI 6 from rfl, inside_n (by omega) (by omega), if_pos hp, Option.bind_some, if_neg one_ne, inside_n (by omega) (by omega), if_pos hb, Option.bind_some, if_neg one_ne, pk_mul, nI_add, gin_n (show p * 6 + b < 48 by omega) (by omega), nI_clamp (by omega), Nat.mul_comm]
theorem gainOf_s {ga : Nat → Int32} {q b : Nat} (hq : q < 256) (hb : b < 6) : F_X0_gainOf (nI q) (nI b) ga = some (ga (6 * q + b)) := by
  unfold F_X0_gainOf
  rw [show (256 : Int32) = nI 256 from rfl, show (6 : Int32) = nI 6 from rfl, inside_n (by omega) (by omega), if_pos hq, Option.bind_some, if_neg one_ne, inside_n (by omega) (by omega), if_pos hb, Option.bind_some, if_neg one_ne, pk_mul, nI_add, gin_n (show q * 6 + b < 1536 by omega) (by omega), nI_clamp (by omega), Nat.mul_comm]
theorem six_mul (q b : Nat) : (6 : Int32) * nI q + nI b = nI (6 * q + b) := by rw [show (6 : Int32) = nI 6 from rfl, pk_mul, nI_add]
theorem mul_six (q b : Nat) : nI q * (6 : Int32) + nI b = nI (6 * q + b) := by rw [show (6 : Int32) = nI 6 from rfl, pk_mul, nI_add, Nat.mul_comm]
def Vals (va : Nat → Int32) : Prop := ∀ i, i < 48 → ∃ v, v < 100 ∧ va i = nI v
def GRel (P q : Nat) (ga ge pk tk : Nat → Int32) : Prop := ∀ left, left < q → left &&& P = left → (∀ b, b < 6 → ∃ g, g ≤ 99 * hN left 10 ∧ ga (6 * left + b) = nI g ∧ ge (6 * left + b) = nI g) ∧ (left ≠ 0 → ∃ t, t < 8 ∧ left.testBit t = true ∧ pk left = nI t ∧ tk left = nI t)
section GN
variable {va : Nat → Int32} {P : Nat}
/-- which post is taken: both sides -/
theorem pick_both (hV : Vals va) (hP : P < 256) {q w : Nat} (hq0 : 0 < q) (hq : q < 256) (hsub : q &&& P = q) (hw : w < 6) {ga ge pk : Nat → Int32} (hG : ∀ left, left < q → left &&& P = left → ∃ g, g ≤ 99 * hN left 10 ∧ ga (6 * left + w) = nI g ∧ ge (6 * left + w) = nI g) {x1 x2 : Int32} {cho2 : Nat → Int32} (rec2 : Int32 → (Nat → Int32) → (Nat → Int32) → Option ((Nat → Int32) × (Nat → Int32))) :
    ∀ (f1 f2 p : Nat) (x3 x4 : Int32) (tk : Nat → Int32), 8 - p < f1 → 8 - p < f2 → p ≤ 8 → tk q = x3 → ((x4 = -1 ∧ x3 = -1 ∧ ∀ p', p' < p → ¬ q.testBit p' = true) ∨ (∃ m t, x4 = nI m ∧ m ≤ 99 * hN q 10 ∧ x3 = nI t ∧ t < 8 ∧ q.testBit t = true)) →
      ∃ m t tk', m ≤ 99 * hN q 10 ∧ t < 8 ∧ q.testBit t = true ∧ tk' q = nI t ∧ (∀ j, j ≠ q → tk' j = tk j) ∧
        F_X0_foreseeOne_8 (nI q) (nI w) va f1 x3 x4 (nI p) ga pk = F_X0_foreseeOne_67 (nI q) (nI w) va (nI t) (nI m) ga pk ∧
        F_X12_findGets_81 x1 x2 cho2 va rec2 f2 (nI q) (nI w) x4 (nI p) ge tk = F_X12_findGets_167 x1 x2 cho2 va rec2 FU (nI q) (nI w) (nI m) 0 ge tk' := by
  intro f1
  induction f1 with
  | zero => intro f2 p x3 x4 tk h; omega
  | succ f1 ih =>
    intro f2 p x3 x4 tk g1 g2 hp htk hst
    obtain ⟨f2, rfl⟩ : ∃ g, f2 = g + 1 := ⟨f2 - 1, by omega⟩
    rw [F_X0_foreseeOne_8, F_X12_findGets_81]
    rcases Nat.lt_or_ge p 8 with hlt | hge
    · rw [if_neg (show ¬ (8 : Int32) ≤ nI p from nI_ge (b := 8) hlt (by omega)), if_neg (show ¬ (8 : Int32) ≤ nI p from nI_ge (b := 8) hlt (by omega)), has_s _ (show p < 32 by omega), isOf_s _ (show p < 32 by omega), Option.bind_some, Option.bind_some, bt_nI (by omega), nI_1, les_nI (by omega) (by omega)]
      by_cases c : q.testBit p = true
      · have hll := les_lt (p := p) (show q < 1024 by omega) c
        have hmore := les_more (show q < 1024 by omega) (show p < 10 by omega) c
        obtain ⟨g, hg1, hg2, hg3⟩ := hG (les q p) hll (sub_trans les_sub hsub)
        obtain ⟨v, hv1, hv2⟩ := hV (6 * p + w) (by omega)
        have hle := hN_le q 10
        rw [if_pos c, if_neg one_ne, if_neg one_ne, priceOf_s hlt hw, gainOf_s (show les q p < 256 by omega) hw, Option.bind_some, Option.bind_some, six_mul, six_mul, gin_n (show 6 * p + w < 48 by omega) (by omega), gin_n (show 6 * les q p + w < 1536 by omega) (by omega), nI_clamp (show 6 * p + w < 2 ^ 31 by omega), nI_clamp (show 6 * les q p + w < 2 ^ 31 by omega), hg2, hg3, hv2, nI_add, gin_n hq (by omega), nI_clamp (show q < 2 ^ 31 by omega)]
        have take : ∃ m t tk', m ≤ 99 * hN q 10 ∧ t < 8 ∧ q.testBit t = true ∧ tk' q = nI t ∧ (∀ j, j ≠ q → tk' j = tk j) ∧
            F_X0_foreseeOne_8 (nI q) (nI w) va f1 (nI p) (nI (v + g)) (nI (p + 1)) ga pk = F_X0_foreseeOne_67 (nI q) (nI w) va (nI t) (nI m) ga pk ∧
            F_X12_findGets_81 x1 x2 cho2 va rec2 f2 (nI q) (nI w) (nI (v + g)) (nI (p + 1)) ge (upd tk q (nI p)) = F_X12_findGets_167 x1 x2 cho2 va rec2 FU (nI q) (nI w) (nI m) 0 ge tk' := by
          obtain ⟨m, t, tk', a1, a2, a3, a4, a5, a6, a7⟩ := ih f2 (p + 1) (nI p) (nI (v + g)) (upd tk q (nI p)) (by omega) (by omega) (by omega) (upd_self _ _ _) (Or.inr ⟨v + g, p, rfl, by omega, rfl, hlt, c⟩)
          exact ⟨m, t, tk', a1, a2, a3, a4, fun j hj => by rw [a5 j hj, upd_ne _ _ hj], a6, a7⟩
        rcases hst with ⟨e4, e3, hno⟩ | ⟨m, t, e4, hm, e3, ht, htb⟩
        · subst e4
          rw [if_neg (show ¬ nI (v + g) ≤ (-1 : Int32) by
            rw [Int32.le_iff_toInt_le, nI_toInt (by omega), show (-1 : Int32).toInt = -1 by decide]; omega), if_pos (show (-1 : Int32) < nI (v + g) by
            rw [Int32.lt_iff_toInt_lt, nI_toInt (by omega), show (-1 : Int32).toInt = -1 by decide]; omega)]
          exact take
        · subst e4
          by_cases z : v + g ≤ m
          · rw [if_pos (nI_le z (by omega)), if_neg (nI_nlt z (by omega))]
            exact ih f2 (p + 1) x3 (nI m) tk (by omega) (by omega) (by omega) htk (Or.inr ⟨m, t, rfl, hm, e3, ht, htb⟩)
          · rw [if_neg (nI_ge (by omega) (by omega)), if_pos (nI_lt (by omega) (by omega))]
            exact take
      · rw [if_neg c, if_pos rfl, if_pos rfl]
        refine ih f2 (p + 1) x3 x4 tk (by omega) (by omega) (by omega) htk ?_
        rcases hst with ⟨e4, e3, hno⟩ | h
        · refine Or.inl ⟨e4, e3, fun p' hp' => ?_⟩
          by_cases e : p' = p
          · rw [e]; exact c
          · exact hno p' (by omega)
        · exact Or.inr h
    · have e : p = 8 := by omega
      subst e
      rw [if_pos (show (8 : Int32) ≤ nI 8 by decide), if_pos (show (8 : Int32) ≤ nI 8 by decide)]
      rcases hst with ⟨e4, e3, hno⟩ | ⟨m, t, e4, hm, e3, ht, htb⟩
      · exfalso
        obtain ⟨b, hb, _⟩ := sub_miss (p := 0) (q := q) (by rw [Nat.zero_and]) hq0
        have hb8 : b < 8 := by
          rcases Nat.lt_or_ge b 8 with z | z
          · exact z
          · rw [Nat.testBit_lt_two_pow (Nat.lt_of_lt_of_le (show q < 2 ^ 8 from hq) (Nat.pow_le_pow_right (by omega) z))] at hb
            cases hb
        exact hno b hb8 hb
      · subst e4; subst e3
        exact ⟨m, t, tk, hm, ht, htb, htk, fun _ _ => rfl, rfl, rfl⟩
/-- what they then have -/
theorem fill_97 {q w m t : Nat} (hq : q < 256) (ht : t < 8) (htb : q.testBit t = true) (pk : Nat → Int32) : ∀ (fuel b : Nat) (ga ga0 : Nat → Int32), 6 - b < fuel → b ≤ 6 → (∀ c, c < b → ga (6 * q + c) = if c = w then nI m else ga0 (6 * les q t + c)) → (∀ j, (j < 6 * q ∨ 6 * q + b ≤ j) → ga j = ga0 j) → w < 6 →
    ∃ ga', F_X0_foreseeOne_97 (nI q) (nI w) va fuel (nI t) (nI m) (nI b) ga pk = some (ga', pk) ∧ (∀ c, c < 6 → ga' (6 * q + c) = if c = w then nI m else ga0 (6 * les q t + c)) ∧ ∀ j, (j < 6 * q ∨ 6 * q + 6 ≤ j) → ga' j = ga0 j := by
  intro fuel
  induction fuel with
  | zero => intro b ga ga0 h; omega
  | succ n ih =>
    intro b ga ga0 h hb h1 h2 hw
    have hll := les_lt (p := t) (show q < 1024 by omega) htb
    rw [F_X0_foreseeOne_97]
    rcases Nat.lt_or_ge b 6 with hlt | hge
    · rw [if_neg (show ¬ (6 : Int32) ≤ nI b from nI_ge (b := 6) hlt (by omega)), les_nI (by omega) (by omega), gainOf_s (show les q t < 256 by omega) hlt, Option.bind_some, mul_six, gin_n (show 6 * q + b < 1536 by omega) (by omega), gin_n (show 6 * q + b < 1536 by omega) (by omega), nI_clamp (by omega), nI_1]
      have step : ∀ x, x = (if b = w then nI m else ga0 (6 * les q t + b)) → ∃ ga', F_X0_foreseeOne_97 (nI q) (nI w) va n (nI t) (nI m) (nI (b + 1)) (upd ga (6 * q + b) x) pk = some (ga', pk) ∧ (∀ c, c < 6 → ga' (6 * q + c) = if c = w then nI m else ga0 (6 * les q t + c)) ∧ ∀ j, (j < 6 * q ∨ 6 * q + 6 ≤ j) → ga' j = ga0 j := by
        intro x hx
        refine ih (b + 1) _ ga0 (by omega) (by omega) (fun c hc => ?_) (fun j hj => ?_) hw
        · by_cases e : c = b
          · subst e; rw [upd_self]; exact hx
          · rw [upd_ne _ _ (by omega)]; exact h1 c (by omega)
        · rw [upd_ne _ _ (by omega)]; exact h2 j (by omega)
      by_cases c : b = w
      · rw [if_pos (by rw [c])]
        exact step _ (by rw [if_pos c])
      · rw [if_neg (fun z => c ((nI_eq (by omega) (by omega)).mp z))]
        exact step _ (by rw [if_neg c]; exact h2 _ (by omega))
    · have e : b = 6 := by omega
      subst e
      rw [if_pos (show (6 : Int32) ≤ nI 6 by decide)]
      exact ⟨ga, rfl, h1, h2⟩
theorem fill_167 {q w m t : Nat} (hq : q < 256) (ht : t < 8) (htb : q.testBit t = true) (hw : w < 6) {tk : Nat → Int32} (htk : tk q = nI t) {x1 x2 : Int32} {cho2 : Nat → Int32} (rec2 : Int32 → (Nat → Int32) → (Nat → Int32) → Option ((Nat → Int32) × (Nat → Int32))) : ∀ (fuel b : Nat) (ge ge0 : Nat → Int32), 6 - b < fuel → b ≤ 6 → (∀ c, c < b → ge (6 * q + c) = ge0 (6 * les q t + c)) → (∀ j, (j < 6 * q ∨ 6 * q + 6 ≤ j) → ge j = ge0 j) →
    ∃ ge', F_X12_findGets_167 x1 x2 cho2 va rec2 fuel (nI q) (nI w) (nI m) (nI b) ge tk = rec2 (nI (q + 1)) ge' tk ∧ (∀ c, c < 6 → ge' (6 * q + c) = if c = w then nI m else ge0 (6 * les q t + c)) ∧ ∀ j, (j < 6 * q ∨ 6 * q + 6 ≤ j) → ge' j = ge0 j := by
  intro fuel
  induction fuel with
  | zero => intro b ge ge0 h; omega
  | succ n ih =>
    intro b ge ge0 h hb h1 h2
    have hll := les_lt (p := t) (show q < 1024 by omega) htb
    rw [F_X12_findGets_167]
    rcases Nat.lt_or_ge b 6 with hlt | hge
    · rw [if_neg (show ¬ (6 : Int32) ≤ nI b from nI_ge (b := 6) hlt (by omega)), gin_n hq (by omega), nI_clamp (show q < 2 ^ 31 by omega), htk, les_nI (by omega) (by omega), six_mul, six_mul, gin_n (show 6 * les q t + b < 1536 by omega) (by omega), gin_n (show 6 * q + b < 1536 by omega) (by omega), nI_clamp (show 6 * les q t + b < 2 ^ 31 by omega), nI_clamp (show 6 * q + b < 2 ^ 31 by omega), nI_1]
      refine ih (b + 1) _ ge0 (by omega) (by omega) (fun c hc => ?_) (fun j hj => ?_)
      · by_cases e : c = b
        · subst e; rw [upd_self]; exact h2 _ (by omega)
        · rw [upd_ne _ _ (by omega)]; exact h1 c (by omega)
      · rw [upd_ne _ _ (by omega)]; exact h2 j hj
    · have e : b = 6 := by omega
      subst e
      rw [if_pos (show (6 : Int32) ≤ nI 6 by decide), six_mul, gin_n (show 6 * q + w < 1536 by omega) (by omega), nI_clamp (by omega), nI_1]
      refine ⟨_, rfl, fun c hc => ?_, fun j hj => ?_⟩
      · by_cases e : c = w
        · subst e; rw [upd_self, if_pos rfl]
        · rw [upd_ne _ _ (by omega), if_neg e]; exact h1 c hc
      · rw [upd_ne _ _ (by omega)]; exact h2 j hj
theorem zero_21 {q : Nat} (hq : q < 256) {x1 x2 : Int32} {cho2 : Nat → Int32} (rec2 : Int32 → (Nat → Int32) → (Nat → Int32) → Option ((Nat → Int32) × (Nat → Int32))) (tk : Nat → Int32) : ∀ (fuel b : Nat) (ge ge0 : Nat → Int32), 6 - b < fuel → b ≤ 6 → (∀ c, c < b → ge (6 * q + c) = 0) → (∀ j, (j < 6 * q ∨ 6 * q + 6 ≤ j) → ge j = ge0 j) →
    ∃ ge', F_X12_findGets_21 x1 x2 cho2 va rec2 fuel (nI q) (nI b) ge tk = F_X12_findGets_47 x1 x2 cho2 va rec2 (nI q) ge' tk ∧ (∀ c, c < 6 → ge' (6 * q + c) = 0) ∧ ∀ j, (j < 6 * q ∨ 6 * q + 6 ≤ j) → ge' j = ge0 j := by
  intro fuel
  induction fuel with
  | zero => intro b ge ge0 h; omega
  | succ n ih =>
    intro b ge ge0 h hb h1 h2
    rw [F_X12_findGets_21]
    rcases Nat.lt_or_ge b 6 with hlt | hge
    · rw [if_neg (show ¬ (6 : Int32) ≤ nI b from nI_ge (b := 6) hlt (by omega)), six_mul, gin_n (show 6 * q + b < 1536 by omega) (by omega), nI_clamp (by omega), nI_1]
      refine ih (b + 1) _ ge0 (by omega) (by omega) (fun c hc => ?_) (fun j hj => ?_)
      · by_cases e : c = b
        · subst e; rw [upd_self]
        · rw [upd_ne _ _ (by omega)]; exact h1 c (by omega)
      · rw [upd_ne _ _ (by omega)]; exact h2 j hj
    · have e : b = 6 := by omega
      subst e
      rw [if_pos (show (6 : Int32) ≤ nI 6 by decide)]
      exact ⟨ge, rfl, h1, h2⟩
/-- all sets left, both sides -/
theorem foresee_both (hV : Vals va) (hP : P < 256) {C n : Nat} (hn : n = hN P 10) {cho cho2 : Nat → Int32} (hcs : Chs C n cho cho2) : ∀ (f1 f2 q : Nat) (ga ge pk tk : Nat → Int32), 257 - q < f1 → 257 - q < f2 → 1 ≤ q → q ≤ P + 1 → (∀ b, b < 6 → ga b = 0) → GRel P q ga ge pk tk →
    ∃ ga' ge' pk' tk', F_X0_foresee_2 (nI P) (nI n) cho va f1 (nI q) ga pk = some (ga', pk') ∧ F_X12_findGets_2 (nI P) (nI n) cho2 va f2 (nI q) ge tk = some (ge', tk') ∧ (∀ b, b < 6 → ga' b = 0) ∧ GRel P (P + 1) ga' ge' pk' tk' := by
  have hn8 : n ≤ 8 := by rw [hn]; exact hN_256 hP
  intro f1
  induction f1 with
  | zero => intro f2 q ga ge pk tk h; omega
  | succ f1 ih =>
    intro f2 q ga ge pk tk g1 g2 hq1 hq hz hR
    obtain ⟨f2, rfl⟩ : ∃ g, f2 = g + 1 := ⟨f2 - 1, by omega⟩
    rw [F_X0_foresee_2, F_X12_findGets_2]
    rcases Nat.lt_or_ge P q with hlt | hge
    · have e : q = P + 1 := by omega
      subst e
      rw [if_pos (nI_lt hlt (by omega)), if_pos (nI_lt hlt (by omega))]
      exact ⟨ga, ge, pk, tk, rfl, rfl, hz, hR⟩
    · have hq256 : q < 256 := by omega
      rw [if_neg (nI_nlt hge (by omega)), if_neg (nI_nlt hge (by omega)), if_neg (show ¬ (256 : Int32) ≤ nI q from nI_ge (b := 256) hq256 (by omega)), bitCount_N (show q < 1024 by omega), Option.bind_some, isWithin_s, Option.bind_some, nI_1]
      by_cases c : (nI q &&& (nI P ^^^ (-1))) = 0
      · have hsub := (win_sub (show q < 1024 by omega) (show P < 1024 by omega)).mp c
        have hpos := hN_pos (show q < 1024 by omega) (by omega)
        have hle : hN q 10 ≤ n := by rw [hn]; exact hN_mono 10 (fun i _ h => sub_bit.mp hsub i h)
        obtain ⟨w, w1, w2, w3, w4⟩ := hcs (n - hN q 10) (by omega)
        rw [if_pos c, if_neg one_ne, if_pos c, pk_sub hle, show (8 : Int32) = nI 8 from rfl, inside_n (by omega) (by omega), if_pos (show n - hN q 10 < 8 by omega), Option.bind_some, if_neg one_ne, gin_n (show n - hN q 10 < 8 by omega) (by omega), nI_clamp (by omega), w3]
        obtain ⟨ge1, z1, z2, z3⟩ := zero_21 (va := va) hq256 (x1 := nI P) (x2 := nI n) (cho2 := cho2) (F_X12_findGets_2 (nI P) (nI n) cho2 va f2) tk FU 0 ge ge (by unfold FU; omega) (by omega) (fun c hc => by omega) (fun _ _ => rfl)
        rw [nI_0] at z1
        rw [z1]
        unfold F_X12_findGets_47
        rw [gin_n hq256 (by omega), if_neg (nI_ne0 (by omega) (by omega)), ones_s (show q < 1024 by omega), Option.bind_some, pk_sub hle, gin_n (show n - hN q 10 < 8 by omega) (by omega), nI_clamp (show n - hN q 10 < 2 ^ 31 by omega), nI_clamp (show q < 2 ^ 31 by omega), w4]
        obtain ⟨m, t, tk', a1, a2, a3, a4, a5, a6, a7⟩ := pick_both (pk := pk) hV hP (show 0 < q by omega) hq256 hsub w1 (ga := ga) (ge := ge1) (fun left h1 h2 => by
          obtain ⟨g, e1, e2, e3⟩ := (hR left h1 h2).1 w w1
          exact ⟨g, e1, e2, by rw [z3 _ (by omega)]; exact e3⟩) (x1 := nI P) (x2 := nI n) (cho2 := cho2) (F_X12_findGets_2 (nI P) (nI n) cho2 va f2) FU FU 0 (-1) (-1) (upd tk q (-1)) (by unfold FU; omega) (by unfold FU; omega) (by omega) (upd_self _ _ _) (Or.inl ⟨rfl, rfl, fun p' h => by omega⟩)
        rw [nI_0] at a6 a7
        unfold F_X0_foreseeOne
        rw [a6, a7]
        unfold F_X0_foreseeOne_67
        rw [show (256 : Int32) = nI 256 from rfl, show (8 : Int32) = nI 8 from rfl, inside_n (by omega) (by omega), if_pos hq256, Option.bind_some, if_neg one_ne, inside_n (by omega) (by omega), if_pos a2, Option.bind_some, if_neg one_ne, gin_n hq256 (by omega), nI_clamp (show q < 2 ^ 31 by omega)]
        obtain ⟨ga', b1, b2, b3⟩ := fill_97 (va := va) (w := w) (m := m) hq256 a2 a3 (upd pk q (nI t)) FU 0 ga ga (by unfold FU; omega) (by omega) (fun c hc => by omega) (fun _ _ => rfl) w1
        obtain ⟨ge', c1, c2, c3⟩ := fill_167 (va := va) (w := w) (m := m) hq256 a2 a3 w1 a4 (x1 := nI P) (x2 := nI n) (cho2 := cho2) (F_X12_findGets_2 (nI P) (nI n) cho2 va f2) FU 0 ge1 ge1 (by unfold FU; omega) (by omega) (fun c hc => by omega) (fun _ _ => rfl)
        rw [nI_0] at b1 c1
        rw [b1, c1, Option.bind_some]
        dsimp only
        refine ih f2 (q + 1) ga' ge' (upd pk q (nI t)) tk' (by omega) (by omega) (by omega) (by omega) (fun b hb => by rw [b3 b (by omega)]; exact hz b hb) (fun left hl hs => ?_)
        by_cases e : left = q
        · subst e
          have hll := les_lt (p := t) (show left < 1024 by omega) a3
          have hmore := les_more (show left < 1024 by omega) (show t < 10 by omega) a3
          refine ⟨fun b hb => ?_, fun _ => ⟨t, a2, a3, upd_self _ _ _, a4⟩⟩
          rw [b2 b hb, c2 b hb]
          by_cases e2 : b = w
          · rw [if_pos e2, if_pos e2]; exact ⟨m, a1, rfl, rfl⟩
          · rw [if_neg e2, if_neg e2]
            obtain ⟨g, f3, f4, f5⟩ := (hR (les left t) hll (sub_trans les_sub hs)).1 b hb
            exact ⟨g, by omega, f4, by rw [z3 _ (by omega)]; exact f5⟩
        · obtain ⟨h1, h2⟩ := hR left (by omega) hs
          refine ⟨fun b hb => ?_, fun h0 => ?_⟩
          · obtain ⟨g, f3, f4, f5⟩ := h1 b hb
            exact ⟨g, f3, by rw [b3 _ (by omega)]; exact f4, by rw [c3 _ (by omega), z3 _ (by omega)]; exact f5⟩
          · obtain ⟨t', f3, f4, f5, f6⟩ := h2 h0
            exact ⟨t', f3, f4, by rw [upd_ne _ _ e]; exact f5, by rw [a5 left e, upd_ne _ _ e]; exact f6⟩
      · rw [if_neg c, if_pos rfl, if_neg c]
        refine ih f2 (q + 1) ga ge pk tk (by omega) (by omega) (by omega) (by omega) hz (fun left hl hs => ?_)
        by_cases e : left = q
        · subst e
          exact absurd ((win_sub (show left < 1024 by omega) (show P < 1024 by omega)).mpr hs) c
        · exact hR left (by omega) hs
end GN
