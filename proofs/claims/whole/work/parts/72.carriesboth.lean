/-! carries -/
theorem isRule_s (x : Int32) : F_X12_isRule x = F_X11_inside x 4 := by
  rw [inside_in (a := 3) (by decide)]
  unfold F_X12_isRule
  rw [isIn_s, Option.bind_some, gb, if_pos (ite01 _)]
theorem within_small {x y : Int32} (hy : ∀ i, 10 ≤ i → i < 32 → bt y i = false) (h : (x &&& (y ^^^ (-1))) = 0) : ∃ q, q < 1024 ∧ x = nI q := by
  refine small10 (fun i a b => ?_)
  cases c : bt x i
  · rfl
  · have := (win_iff x y).mp h i b c
    rw [hy i a b] at this; cases this
theorem isSet_s {x y : Int32} (hy : ∀ i, 10 ≤ i → i < 32 → bt y i = false) : F_X12_isSet x y = F_X11_isWithin x y := by
  rw [isWithin_s]
  unfold F_X12_isSet
  by_cases h : (x &&& (y ^^^ (-1))) = 0
  · obtain ⟨q, hq, e⟩ := within_small hy h
    rw [if_pos h]
    subst e
    rw [if_neg (nI_pos (by omega)), if_pos h]
  · by_cases c : x < 0
    · rw [if_pos c, if_neg h]
    · rw [if_neg c, if_neg h, if_neg h]
section CR
variable {mem day tld blo wei : Nat → Int32} {d k : Int32} {N M : Nat}
theorem sAll_hi {m : Nat} (hm : m ≤ 10) : ∀ i, 10 ≤ i → i < 32 → bt (sAll mem day tld blo d k N m) i = false := by
  intro i a b
  rw [sAll_bt m (by omega) i b, decide_eq_false (show ¬ i < m by omega), Bool.false_and]
/-- a rule on both sides -/
def RuleIs (L : List (Nat × Nat)) (codes : Int32) (code : Nat → Int32) (r : Nat) (cm op arg : Nat → Int32) : Prop :=
  Good L ∧ codes = nI L.length ∧ (∀ j c, L[j]? = some c → code j = nI (c.1 * 16384 + c.2)) ∧ cm r = nI L.length ∧ (∀ j c, L[j]? = some c → op (500 * r + j) = nI (opOf c.1) ∧ arg (500 * r + j) = nI (argOf c.1 c.2))
theorem carriesBy_seat (hM : M ≤ 10) (hn : N ≤ 200) (hmem : ∀ i, i < N → ∃ mi, mi < M ∧ mem i = nI mi) {sin sal : Int32} {mo sw : Nat → Int32} (S : Seated mem day tld blo wei d k N sin sal mo sw) {L : List (Nat × Nat)} {codes : Int32} {code cm op arg : Nat → Int32} {r : Nat} (hr : r < 4) (R : RuleIs L codes code r cm op arg) {set : Int32} (hw : (set &&& (sin ^^^ (-1))) = 0) (st rb rw0 : Nat → Int32) :
    ∃ st', F_X12_carriesBy (nI r) set (sMany mem day tld blo d k N M) (nI M) (sSum mem day tld blo wei d k N M) arg (fun j => if j < M then sB mem day tld blo d k N j else rb j) cm op st (fun j => if j < M then sW mem day tld blo wei d k N j else rw0 j) = some (says (lfS sin sal mo sw set) L, st') := by
  refine carriesBy_s (by omega) R.1 R.2.2.2.1 (fun q s v a b c o e1 e2 => ?_) (fun v _ => lfS_11 v) R.2.2.2.2
  refine leaf_s hM hn hmem S ((win_iff set sin).mp hw) (fun m hm => ?_) (fun m hm => ?_) a b c o e1 e2
  · show (if m < M then _ else _) = _
    rw [if_pos hm]
  · show (if m < M then _ else _) = _
    rw [if_pos hm]
theorem carries_both (hM : M ≤ 10) (hn : N ≤ 200) (hmem : ∀ i, i < N → ∃ mi, mi < M ∧ mem i = nI mi) {sin sal : Int32} {mo sw : Nat → Int32} (S : Seated mem day tld blo wei d k N sin sal mo sw) {L : List (Nat × Nat)} {codes fr : Int32} {code bits cm op arg : Nat → Int32} {x y : Int32} (R : ∀ r, r < 4 → x = nI r → RuleIs L codes code r cm op arg) (hfr : ¬ fr = 0 → Truth sin sal mo sw L bits 1024) (al ma we told : Int32) (row st rb rw0 : Nat → Int32) :
    ∃ a row', F_X11_carries x y codes code row fr bits sal sin mo sw = some (a, row') ∧ ∃ o2, F_X12_carries x y al ma (nI M) (nI N) told d k we arg rb cm op blo day mem tld wei st rw0 = some (a, o2) := by
  have hsin : ∀ i, 10 ≤ i → i < 32 → bt sin i = false := by rw [S.1]; exact sAll_hi (Nat.le_refl _)
  unfold F_X11_carries F_X12_carries F_X12_findsView
  rw [finds_s d k hn hM, Option.bind_some, Option.bind_some]
  dsimp only
  rw [isRule_s, isSet_s (sAll_hi hM), ← sAll10 (day := day) (tld := tld) (blo := blo) (d := d) (k := k) hM hmem, ← S.1, inside_s, isWithin_s]
  simp only [Option.bind_some]
  by_cases hx : 0 ≤ x ∧ x < 4
  · simp only [if_pos hx, if_neg one_ne]
    obtain ⟨r, hr31, er⟩ := nI_of (Int32.not_lt.mpr hx.1)
    subst er
    have hr : r < 4 := (nI_ltI (b := 4) hr31 (by omega)).mp hx.2
    by_cases hy : (y &&& (sin ^^^ (-1))) = 0
    · simp only [if_pos hy, if_neg one_ne]
      obtain ⟨q, hq, eq⟩ := within_small hsin hy
      subst eq
      have hR := R r hr rfl
      obtain ⟨row', h1⟩ := passes_s (sal := sal) (mo := mo) (sw := sw) hR.1 hsin hR.2.2.1 fr row bits hfr hq hy
      obtain ⟨st', h2⟩ := carriesBy_seat hM hn hmem S hr hR hy st rb rw0
      rw [gin_n hr (by omega), hR.2.1, h1, h2, Option.bind_some, Option.bind_some]
      dsimp only
      by_cases c : says (lfS sin sal mo sw (nI q)) L = 0
      · rw [if_pos c, if_pos c]; exact ⟨_, _, rfl, _, rfl⟩
      · rw [if_neg c, if_neg c]; exact ⟨_, _, rfl, _, rfl⟩
    · simp only [if_neg hy, if_true]
      exact ⟨_, _, rfl, _, rfl⟩
  · simp only [if_neg hx, if_true]
    exact ⟨_, _, rfl, _, rfl⟩
end CR
