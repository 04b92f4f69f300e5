/-! support: who wishes a ahead of b -/
/-- m wishes a ahead of b (the class's rows) -/
def prf (fi ra : Nat → Int32) (a b m : Nat) : Bool := decide (¬ fi m = -1) && decide (¬ ra (6 * m + b) ≤ ra (6 * m + a))
/-- the first n that do -/
def ahd (fi ra : Nat → Int32) (a b : Nat) : Nat → Int32
  | 0 => 0
  | m + 1 => if prf fi ra a b m = true then ahd fi ra a b m ||| ((1 : Int32) <<< (nI m &&& 31)) else ahd fi ra a b m
theorem ahd_bt {fi ra : Nat → Int32} {a b : Nat} : ∀ n, n ≤ 32 → ∀ i, i < 32 → bt (ahd fi ra a b n) i = (decide (i < n) && prf fi ra a b i) := by
  intro n
  induction n with
  | zero => intro _ i _; rw [ahd, b_0]; simp
  | succ n ih =>
    intro hn i hi
    have h := ih (by omega) i hi
    rw [ahd]
    by_cases c : prf fi ra a b n = true
    · rw [if_pos c, b_or, h, b_one (by omega) hi]
      by_cases e : i = n
      · subst e; simp [c]
      · have : decide (i < n + 1) = decide (i < n) := decide_eq_decide.mpr (by omega)
        rw [this, decide_eq_false e, Bool.or_false]
    · rw [if_neg c, h]
      by_cases e : i = n
      · subst e; simp [c]
      · have : decide (i < n + 1) = decide (i < n) := decide_eq_decide.mpr (by omega)
        rw [this]
theorem ahead_23 {fi ra : Nat → Int32} {a b : Nat} (ha : a < 6) (hb : b < 6) : ∀ (fuel m : Nat), 10 - m < fuel → m ≤ 10 → F_X4_ahead_23 (nI a) (nI b) fi ra fuel (ahd fi ra a b m) (nI m) = some (ahd fi ra a b 10) := by
  intro fuel
  induction fuel with
  | zero => intro m h; omega
  | succ n ih =>
    intro m h hm
    rw [F_X4_ahead_23]
    rcases Nat.lt_or_ge m 10 with hlt | hge
    · have next := ih (m + 1) (by omega) (by omega)
      have e1 : nI m * 6 + nI a = nI (6 * m + a) := by rw [show (6 : Int32) = nI 6 from rfl, pk_mul, nI_add, Nat.mul_comm]
      have e2 : nI m * 6 + nI b = nI (6 * m + b) := by rw [show (6 : Int32) = nI 6 from rfl, pk_mul, nI_add, Nat.mul_comm]
      rw [if_neg (show ¬ (10 : Int32) ≤ nI m from nI_ge (b := 10) hlt (by omega)), gin_n hlt (by omega), nI_clamp (show m < 2 ^ 31 by omega), e1, e2, gin_n (show 6 * m + a < 60 by omega) (by omega), gin_n (show 6 * m + b < 60 by omega) (by omega), nI_clamp (show 6 * m + a < 2 ^ 31 by omega), nI_clamp (show 6 * m + b < 2 ^ 31 by omega), nI_1]
      rw [ahd] at next
      by_cases c1 : fi m = -1
      · rw [if_neg (show ¬ prf fi ra a b m = true by unfold prf; simp [c1])] at next
        rw [if_pos c1]; exact next
      · rw [if_neg c1]
        by_cases c2 : ra (6 * m + b) ≤ ra (6 * m + a)
        · rw [if_neg (show ¬ prf fi ra a b m = true by unfold prf; simp [c2])] at next
          rw [if_pos c2]; exact next
        · rw [if_pos (show prf fi ra a b m = true by unfold prf; simp [c1, c2])] at next
          rw [if_neg c2]; exact next
    · have e : m = 10 := by omega
      subst e
      rw [if_pos (show (10 : Int32) ≤ nI 10 from nI_le (a := 10) (Nat.le_refl _) (by omega))]
theorem ahead_s {fi ra : Nat → Int32} {a b : Nat} (ha : a < 6) (hb : b < 6) : F_X4_ahead (nI a) (nI b) fi ra = some (ahd fi ra a b 10) := by
  unfold F_X4_ahead
  rw [show (6 : Int32) = nI 6 from rfl, inside_n (by omega) (by omega), if_pos ha, Option.bind_some, if_neg one_ne, inside_n (by omega) (by omega), if_pos hb, Option.bind_some, if_neg one_ne]
  have h := ahead_23 (fi := fi) (ra := ra) ha hb FU 0 (by unfold FU; omega) (by omega)
  rw [nI_0] at h
  exact h
/-- the reference's rank is the class's -/
theorem rankOf_s {fi ra hw wi : Nat → Int32} (hW : WishOk fi ra hw wi) {m a : Nat} (hm : m < 10) (ha : a < 6) (hh : ¬ hw m = 0) : F_X12_rankOf (nI m) (nI a) wi = some (ra (6 * m + a)) := by
  rcases hW m hm with ⟨h, -⟩ | ⟨-, w, h1, h2, -⟩
  · exact absurd h hh
  · obtain ⟨k, hk, ek⟩ := h2 a ha
    have key : ∀ (fuel j : Nat), k - j < fuel → j ≤ k → F_X12_rankOf_2 (nI m) (nI a) wi fuel (nI j) = some (nI k) := by
      intro fuel
      induction fuel with
      | zero => intro j h; omega
      | succ n ih =>
        intro j h hj
        have e1 : (6 : Int32) * nI m + nI j = nI (6 * m + j) := by rw [show (6 : Int32) = nI 6 from rfl, pk_mul, nI_add]
        rw [F_X12_rankOf_2, e1, gin_n (show 6 * m + j < 60 by omega) (by omega), nI_clamp (by omega), (h1 j (by omega)).2.1, nI_1]
        by_cases c : j = k
        · rw [if_pos (by rw [c, ek]), c]
        · rw [if_neg]
          · exact ih (j + 1) (by omega) (by omega)
          · intro z
            have := (h1 j (by omega)).1
            have e2 : w j = a := (nI_eq (by omega) (by omega)).mp z
            have r1 := (h1 j (by omega)).2.2
            have r2 := (h1 k hk).2.2
            rw [e2] at r1
            rw [ek, r1] at r2
            exact c ((nI_eq (by omega) (by omega)).mp r2)
    unfold F_X12_rankOf
    have := key FU 0 (by unfold FU; omega) (by omega)
    rw [nI_0] at this
    rw [this, ← ek, (h1 k hk).2.2]
theorem prf_iff {fi ra hw wi : Nat → Int32} (hW : WishOk fi ra hw wi) {m a b : Nat} (hm : m < 10) : prf fi ra a b m = true ↔ ¬ hw m = 0 ∧ ¬ ra (6 * m + b) ≤ ra (6 * m + a) := by
  unfold prf
  rw [Bool.and_eq_true, decide_eq_true_iff, decide_eq_true_iff]
  have : ¬ fi m = -1 ↔ ¬ hw m = 0 := by
    rcases hW m hm with ⟨h, e⟩ | ⟨h, w, h1, -, e⟩
    · rw [h, e]; simp
    · rw [h, e]
      have := (h1 0 (by omega)).1
      simp only [neg1_ne (show w 0 < 2 ^ 31 by omega), one_ne]
  rw [this]
/-- the reference's set -/
def spp (al : Int32) (fi ra : Nat → Int32) (a b : Nat) : Nat → Int32
  | 0 => 0
  | m + 1 => if bt al m = true ∧ prf fi ra a b m = true then spp al fi ra a b m ||| ((1 : Int32) <<< (nI m &&& 31)) else spp al fi ra a b m
theorem spp_bt {al : Int32} {fi ra : Nat → Int32} {a b : Nat} : ∀ n, n ≤ 32 → ∀ i, i < 32 → bt (spp al fi ra a b n) i = (decide (i < n) && bt al i && prf fi ra a b i) := by
  intro n
  induction n with
  | zero => intro _ i _; rw [spp, b_0]; simp
  | succ n ih =>
    intro hn i hi
    have h := ih (by omega) i hi
    rw [spp]
    by_cases c : bt al n = true ∧ prf fi ra a b n = true
    · rw [if_pos c, b_or, h, b_one (by omega) hi]
      by_cases e : i = n
      · subst e; simp [c.1, c.2]
      · have : decide (i < n + 1) = decide (i < n) := decide_eq_decide.mpr (by omega)
        rw [this, decide_eq_false e, Bool.or_false]
    · rw [if_neg c, h]
      by_cases e : i = n
      · subst e
        cases q1 : bt al i
        · simp
        · cases q2 : prf fi ra a b i
          · simp
          · exact absurd ⟨q1, q2⟩ c
      · have : decide (i < n + 1) = decide (i < n) := decide_eq_decide.mpr (by omega)
        rw [this]
theorem supportOf_5 {al : Int32} {fi ra hw wi : Nat → Int32} (hW : WishOk fi ra hw wi) {a b M : Nat} (hM : M ≤ 10) (ha : a < 6) (hb : b < 6) : ∀ (fuel m : Nat), M - m < fuel → m ≤ M → F_X12_supportOf_5 (nI a) (nI b) al (nI M) hw wi fuel (spp al fi ra a b m) (nI m) = some (spp al fi ra a b M) := by
  intro fuel
  induction fuel with
  | zero => intro m h; omega
  | succ n ih =>
    intro m h hm
    rw [F_X12_supportOf_5]
    rcases Nat.lt_or_ge m M with hlt | hge
    · have next := ih (m + 1) (by omega) (by omega)
      have hpi := prf_iff hW (m := m) (a := a) (b := b) (by omega)
      rw [spp] at next
      rw [if_neg (nI_ge hlt (by omega)), isOf_s _ (show m < 32 by omega), Option.bind_some, gin_n (show m < 10 by omega) (by omega), nI_clamp (show m < 2 ^ 31 by omega), nI_1]
      by_cases c1 : bt al m = true
      · rw [if_pos c1, if_neg one_ne]
        by_cases c2 : hw m = 0
        · rw [if_neg (fun z => (hpi.mp z.2).1 c2)] at next
          rw [if_pos c2]; exact next
        · rw [if_neg c2, rankOf_s hW (by omega) ha c2, Option.bind_some, rankOf_s hW (by omega) hb c2, Option.bind_some]
          by_cases c3 : ra (6 * m + b) ≤ ra (6 * m + a)
          · rw [if_neg (fun z => (hpi.mp z.2).2 c3)] at next
            rw [if_pos c3]; exact next
          · rw [if_pos ⟨c1, hpi.mpr ⟨c2, c3⟩⟩] at next
            rw [if_neg c3]; exact next
      · rw [if_neg (fun z => c1 z.1)] at next
        rw [if_neg c1, if_pos rfl]; exact next
    · have e : m = M := by omega
      subst e
      rw [if_pos (nI_le (Nat.le_refl _) (by omega))]
theorem supportOf_s {sin : Int32} {fi ra hw wi : Nat → Int32} (hW : WishOk fi ra hw wi) {a b M : Nat} (hM : M ≤ 10) (hs : ∀ i, M ≤ i → i < 32 → bt sin i = false) (ha : a < 6) (hb : b < 6) : F_X12_supportOf (nI a) (nI b) sin (nI M) hw wi = some (ahd fi ra a b 10 &&& sin) := by
  unfold F_X12_supportOf
  have h := supportOf_5 (al := sin) hW hM ha hb FU 0 (by unfold FU; omega) (by omega)
  rw [nI_0, spp] at h
  rw [h]
  congr 1
  apply b_ext
  intro i hi
  rw [spp_bt M (by omega) i hi, b_and, ahd_bt 10 (by omega) i hi]
  rcases Nat.lt_or_ge i M with c | c
  · rw [decide_eq_true c, decide_eq_true (show i < 10 by omega), Bool.true_and, Bool.true_and, Bool.and_comm]
  · rw [decide_eq_false (show ¬ i < M by omega), hs i c hi, Bool.false_and, Bool.false_and, Bool.and_false]
section SB
variable {mem day tld blo wei : Nat → Int32} {d k : Int32} {N M : Nat}
theorem sin_M (hM : M ≤ 10) (hmem : ∀ i, i < N → ∃ mi, mi < M ∧ mem i = nI mi) {sin sal : Int32} {mo sw : Nat → Int32} (S : Seated mem day tld blo wei d k N sin sal mo sw) : ∀ i, M ≤ i → i < 32 → bt sin i = false := by
  intro i a b
  rw [S.1, sAll10 hM hmem, sAll_bt M (by omega) i b, decide_eq_false (show ¬ i < M by omega), Bool.false_and]
theorem isMotion_s (x : Int32) : F_X12_isMotion x = F_X11_inside x 6 := by
  rw [inside_in (a := 5) (by decide)]
  unfold F_X12_isMotion
  rw [isIn_s, Option.bind_some, gb, if_pos (ite01 _)]
theorem support_both (hM : M ≤ 10) (hn : N ≤ 200) (hmem : ∀ i, i < N → ∃ mi, mi < M ∧ mem i = nI mi) {sin sal : Int32} {mo sw : Nat → Int32} (S : Seated mem day tld blo wei d k N sin sal mo sw) {fi ra hw wi : Nat → Int32} (hW : WishOk fi ra hw wi) (x y al ma we told : Int32) (rb rw0 : Nat → Int32) :
    ∃ a, F_X11_support x y fi ra sin = some a ∧ ∃ o2, F_X12_support x y al ma (nI M) (nI N) told d k we rb hw blo day mem tld wei rw0 wi = some (a, o2) := by
  unfold F_X11_support F_X12_support F_X12_findsView
  rw [isMotion_s, isMotion_s, inside_s, inside_s, finds_s d k hn hM]
  simp only [Option.bind_some]
  rw [← sAll10 (day := day) (tld := tld) (blo := blo) (d := d) (k := k) hM hmem, ← S.1]
  by_cases h1 : 0 ≤ x ∧ x < 6
  rotate_left
  · simp only [if_neg h1, if_true]
    exact ⟨_, rfl, _, rfl⟩
  simp only [if_pos h1, if_neg one_ne]
  by_cases h2 : 0 ≤ y ∧ y < 6
  rotate_left
  · simp only [if_neg h2, if_true]
    exact ⟨_, rfl, _, rfl⟩
  simp only [if_pos h2, if_neg one_ne]
  by_cases h3 : x = y
  · simp only [if_pos h3]
    exact ⟨_, rfl, _, rfl⟩
  simp only [if_neg h3]
  obtain ⟨a, ha31, ea⟩ := nI_of (Int32.not_lt.mpr h1.1)
  obtain ⟨b, hb31, eb⟩ := nI_of (Int32.not_lt.mpr h2.1)
  subst ea; subst eb
  have ha : a < 6 := (nI_ltI (b := 6) ha31 (by omega)).mp h1.2
  have hb : b < 6 := (nI_ltI (b := 6) hb31 (by omega)).mp h2.2
  rw [ahead_s ha hb, supportOf_s hW hM (sin_M hM hmem S) ha hb]
  exact ⟨_, rfl, _, rfl⟩
/-! who beats whom, by a rule -/
/-- those for a over b carry -/
def bts (sin sal : Int32) (mo sw fi ra : Nat → Int32) (L : List (Nat × Nat)) (a b : Nat) : Bool := decide (¬ a = b) && decide (¬ says (lfS sin sal mo sw (ahd fi ra a b 10 &&& sin)) L = 0)
theorem ahd_small {sin : Int32} {fi ra : Nat → Int32} {a b : Nat} (hsin : ∀ i, 10 ≤ i → i < 32 → bt sin i = false) : ∃ q, q < 1024 ∧ ahd fi ra a b 10 &&& sin = nI q ∧ (nI q &&& (sin ^^^ (-1))) = 0 := by
  obtain ⟨q, hq, e⟩ := within_small hsin (win_and (ahd fi ra a b 10) sin)
  exact ⟨q, hq, e, e ▸ win_and (ahd fi ra a b 10) sin⟩
/-- the class's sets of those beaten -/
theorem compare_18 {sin sal : Int32} {mo sw code fi ra bits : Nat → Int32} {L : List (Nat × Nat)} (hL : Good L) (hsin : ∀ i, 10 ≤ i → i < 32 → bt sin i = false) (hcode : ∀ j c, L[j]? = some c → code j = nI (c.1 * 16384 + c.2)) (fr : Int32) (hfr : ¬ fr = 0 → Truth sin sal mo sw L bits 1024) {a : Nat} (ha : a < 6)
    (rec2 : Int32 → (Nat → Int32) → (Nat → Int32) → Option ((Nat → Int32) × (Nat → Int32))) : ∀ (fuel b : Nat) (st be : Nat → Int32), 6 - b < fuel → b ≤ 6 → (∀ i, i < 32 → bt (be a) i = (decide (i < b) && bts sin sal mo sw fi ra L a i)) →
      ∃ st' be', F_X4_compare_18 (nI L.length) code fr bits sal sin mo sw fi ra rec2 fuel (nI a) (nI b) st be = rec2 (nI (a + 1)) st' be' ∧ (∀ i, i < 32 → bt (be' a) i = (decide (i < 6) && bts sin sal mo sw fi ra L a i)) ∧ ∀ j, j ≠ a → be' j = be j := by
  intro fuel
  induction fuel with
  | zero => intro b st be h; omega
  | succ n ih =>
    intro b st be h hb hB
    rw [F_X4_compare_18]
    rcases Nat.lt_or_ge b 6 with hlt | hge
    · rw [if_neg (show ¬ (6 : Int32) ≤ nI b from nI_ge (b := 6) hlt (by omega)), nI_1]
      have step : ∀ (be1 : Nat → Int32), (∀ i, i < 32 → bt (be1 a) i = (bt (be a) i || (decide (i = b) && bts sin sal mo sw fi ra L a b))) → ∀ i, i < 32 → bt (be1 a) i = (decide (i < b + 1) && bts sin sal mo sw fi ra L a i) := by
        intro be1 h1 i hi
        rw [h1 i hi, hB i hi]
        by_cases e : i = b
        · subst e; simp
        · have : decide (i < b + 1) = decide (i < b) := decide_eq_decide.mpr (by omega)
          rw [this, decide_eq_false e, Bool.false_and, Bool.or_false]
      by_cases c1 : a = b
      · rw [if_pos (by rw [c1])]
        refine ih (b + 1) st be (by omega) (by omega) (step be (fun i hi => ?_))
        unfold bts
        simp [c1]
      · rw [if_neg (fun z => c1 ((nI_eq (by omega) (by omega)).mp z)), ahead_s ha hlt, Option.bind_some]
        obtain ⟨q, hq, e, hw⟩ := ahd_small (fi := fi) (ra := ra) (a := a) (b := b) hsin
        obtain ⟨row', h1⟩ := passes_s (sal := sal) (mo := mo) (sw := sw) hL hsin hcode fr st bits hfr hq hw
        rw [e, h1, Option.bind_some]
        dsimp only
        have ebt : bts sin sal mo sw fi ra L a b = decide (¬ says (lfS sin sal mo sw (nI q)) L = 0) := by
          unfold bts
          rw [e, decide_eq_true c1, Bool.true_and]
        by_cases z : says (lfS sin sal mo sw (nI q)) L = 0
        · rw [if_pos z]
          refine ih (b + 1) row' be (by omega) (by omega) (step be (fun i hi => ?_))
          rw [ebt, decide_eq_false (show ¬ ¬ says (lfS sin sal mo sw (nI q)) L = 0 from fun y => y z), Bool.and_false, Bool.or_false]
        · rw [if_neg z, gin_n ha (by omega), gin_n ha (by omega), nI_clamp (by omega)]
          obtain ⟨st', be', g1, g2, g3⟩ := ih (b + 1) row' (upd be a (be a ||| ((1 : Int32) <<< (nI b &&& 31)))) (by omega) (by omega) (step _ (fun i hi => by
            rw [upd_self, b_or, b_one (by omega) hi, ebt, decide_eq_true z, Bool.and_true]))
          exact ⟨st', be', g1, g2, fun j hj => by rw [g3 j hj, upd_ne _ _ hj]⟩
    · have e : b = 6 := by omega
      subst e
      rw [if_pos (show (6 : Int32) ≤ nI 6 by decide), nI_1]
      exact ⟨st, be, rfl, hB, fun _ _ => rfl⟩
theorem compare_2 {sin sal : Int32} {mo sw code fi ra bits : Nat → Int32} {L : List (Nat × Nat)} (hL : Good L) (hsin : ∀ i, 10 ≤ i → i < 32 → bt sin i = false) (hcode : ∀ j c, L[j]? = some c → code j = nI (c.1 * 16384 + c.2)) (fr : Int32) (hfr : ¬ fr = 0 → Truth sin sal mo sw L bits 1024) :
    ∀ (fuel a : Nat) (st be : Nat → Int32), 6 - a < fuel → a ≤ 6 → (∀ a', a' < a → ∀ i, i < 32 → bt (be a') i = (decide (i < 6) && bts sin sal mo sw fi ra L a' i)) →
      ∃ st' be', F_X4_compare_2 (nI L.length) code fr bits sal sin mo sw fi ra fuel (nI a) st be = some (st', be') ∧ ∀ a', a' < 6 → ∀ i, i < 32 → bt (be' a') i = (decide (i < 6) && bts sin sal mo sw fi ra L a' i) := by
  intro fuel
  induction fuel with
  | zero => intro a st be h; omega
  | succ n ih =>
    intro a st be h ha hB
    rw [F_X4_compare_2]
    rcases Nat.lt_or_ge a 6 with hlt | hge
    · rw [if_neg (show ¬ (6 : Int32) ≤ nI a from nI_ge (b := 6) hlt (by omega)), gin_n hlt (by omega), nI_clamp (by omega)]
      obtain ⟨st', be', g1, g2, g3⟩ := compare_18 (sal := sal) (mo := mo) (sw := sw) (fi := fi) (ra := ra) (bits := bits) hL hsin hcode fr hfr hlt (F_X4_compare_2 (nI L.length) code fr bits sal sin mo sw fi ra n) FU 0 st (upd be a 0) (by unfold FU; omega) (by omega) (fun i hi => by rw [upd_self, b_0]; simp)
      rw [nI_0] at g1
      rw [g1]
      refine ih (a + 1) st' be' (by omega) (by omega) (fun a' ha' i hi => ?_)
      by_cases e : a' = a
      · subst e; exact g2 i hi
      · rw [g3 a' e, upd_ne _ _ e]; exact hB a' (by omega) i hi
    · have e : a = 6 := by omega
      subst e
      rw [if_pos (show (6 : Int32) ≤ nI 6 by decide)]
      exact ⟨st, be, rfl, hB⟩
theorem compare_s {sin sal : Int32} {mo sw code fi ra bits : Nat → Int32} {L : List (Nat × Nat)} (hL : Good L) (hsin : ∀ i, 10 ≤ i → i < 32 → bt sin i = false) (hcode : ∀ j c, L[j]? = some c → code j = nI (c.1 * 16384 + c.2)) (fr : Int32) (hfr : ¬ fr = 0 → Truth sin sal mo sw L bits 1024) (st be : Nat → Int32) :
    ∃ st' be', F_X4_compare (nI L.length) code st fr bits sal sin mo sw be fi ra = some (st', be') ∧ ∀ a', a' < 6 → ∀ i, i < 32 → bt (be' a') i = (decide (i < 6) && bts sin sal mo sw fi ra L a' i) := by
  unfold F_X4_compare
  have h := compare_2 (sal := sal) (mo := mo) (sw := sw) (fi := fi) (ra := ra) (bits := bits) hL hsin hcode fr hfr FU 0 st be (by unfold FU; omega) (by omega) (fun a' h => by omega)
  rw [nI_0] at h
  exact h
/-- the reference's row of 36 -/
theorem findBeats_14 (hM : M ≤ 10) (hn : N ≤ 200) (hmem : ∀ i, i < N → ∃ mi, mi < M ∧ mem i = nI mi) {sin sal : Int32} {mo sw : Nat → Int32} (S : Seated mem day tld blo wei d k N sin sal mo sw) {L : List (Nat × Nat)} {codes : Int32} {code cm op arg : Nat → Int32} {r : Nat} (hr : r < 4) (R : RuleIs L codes code r cm op arg) {fi ra hw wi : Nat → Int32} (hW : WishOk fi ra hw wi) (rb rw0 : Nat → Int32) (NN' vd vk : Int32) {a : Nat} (ha : a < 6)
    (rec6 : Int32 → Int32 → Int32 → Int32 → (Nat → Int32) → (Nat → Int32) → (Nat → Int32) → (Nat → Int32) → Option (Int32 × Int32 × Int32 × (Nat → Int32) × (Nat → Int32) × (Nat → Int32) × (Nat → Int32))) :
    ∀ (fuel b : Nat) (bt_ st : Nat → Int32), 6 - b < fuel → b ≤ 6 → (∀ i, i < b → bt_ (6 * a + i) = if bts sin sal mo sw fi ra L a i = true then 1 else 0) →
      ∃ bt' st', F_X12_findBeats_14 (nI r) (nI M) NN' vd vk arg cm hw op blo day mem tld wei wi rec6 fuel (nI a) (nI b) sin (sMany mem day tld blo d k N M) (sSum mem day tld blo wei d k N M) bt_ (fun j => if j < M then sB mem day tld blo d k N j else rb j) st (fun j => if j < M then sW mem day tld blo wei d k N j else rw0 j) =
        rec6 (nI (a + 1)) sin (sMany mem day tld blo d k N M) (sSum mem day tld blo wei d k N M) bt' (fun j => if j < M then sB mem day tld blo d k N j else rb j) st' (fun j => if j < M then sW mem day tld blo wei d k N j else rw0 j) ∧
        (∀ i, i < 6 → bt' (6 * a + i) = if bts sin sal mo sw fi ra L a i = true then 1 else 0) ∧ ∀ j, j < 6 * a → bt' j = bt_ j := by
  have n0 : vp_nar .boolean 0 = 0 := by decide
  have n1 : vp_nar .boolean 1 = 1 := by decide
  intro fuel
  induction fuel with
  | zero => intro b bt_ st h; omega
  | succ n ih =>
    intro b bt_ st h hb hB
    rw [F_X12_findBeats_14]
    rcases Nat.lt_or_ge b 6 with hlt | hge
    · have e36 : (6 : Int32) * nI a + nI b = nI (6 * a + b) := by rw [show (6 : Int32) = nI 6 from rfl, pk_mul, nI_add]
      rw [if_neg (show ¬ (6 : Int32) ≤ nI b from nI_ge (b := 6) hlt (by omega)), nI_1, e36]
      simp only [gin_n (show 6 * a + b < 36 by omega) (show 36 < 2 ^ 31 by omega), nI_clamp (show 6 * a + b < 2 ^ 31 by omega), n0, n1]
      have step : ∀ (v : Int32) (st1 : Nat → Int32), v = (if bts sin sal mo sw fi ra L a b = true then 1 else 0) → ∃ bt' st', F_X12_findBeats_14 (nI r) (nI M) NN' vd vk arg cm hw op blo day mem tld wei wi rec6 n (nI a) (nI (b + 1)) sin (sMany mem day tld blo d k N M) (sSum mem day tld blo wei d k N M) (upd bt_ (6 * a + b) v) (fun j => if j < M then sB mem day tld blo d k N j else rb j) st1 (fun j => if j < M then sW mem day tld blo wei d k N j else rw0 j) =
        rec6 (nI (a + 1)) sin (sMany mem day tld blo d k N M) (sSum mem day tld blo wei d k N M) bt' (fun j => if j < M then sB mem day tld blo d k N j else rb j) st' (fun j => if j < M then sW mem day tld blo wei d k N j else rw0 j) ∧
        (∀ i, i < 6 → bt' (6 * a + i) = if bts sin sal mo sw fi ra L a i = true then 1 else 0) ∧ ∀ j, j < 6 * a → bt' j = bt_ j := by
        intro v st1 hv
        obtain ⟨bt', st', g1, g2, g3⟩ := ih (b + 1) (upd bt_ (6 * a + b) v) st1 (by omega) (by omega) (fun i hi => by
          by_cases e : i = b
          · subst e; rw [upd_self]; exact hv
          · rw [upd_ne _ _ (by omega)]; exact hB i (by omega))
        exact ⟨bt', st', g1, g2, fun j hj => by rw [g3 j hj, upd_ne _ _ (by omega)]⟩
      by_cases c1 : a = b
      · rw [if_pos (by rw [c1])]
        refine step 0 st ?_
        rw [if_neg (by unfold bts; simp [c1])]
      · rw [if_neg (fun z => c1 ((nI_eq (by omega) (by omega)).mp z)), supportOf_s hW hM (sin_M hM hmem S) ha hlt, Option.bind_some]
        obtain ⟨st', h2⟩ := carriesBy_seat hM hn hmem S hr R (win_and (ahd fi ra a b 10) sin) st rb rw0
        rw [h2, Option.bind_some]
        dsimp only
        have ebt : bts sin sal mo sw fi ra L a b = decide (¬ says (lfS sin sal mo sw (ahd fi ra a b 10 &&& sin)) L = 0) := by
          unfold bts
          rw [decide_eq_true c1, Bool.true_and]
        by_cases z : says (lfS sin sal mo sw (ahd fi ra a b 10 &&& sin)) L = 0
        · rw [if_pos z]
          refine step 0 st' ?_
          rw [ebt, decide_eq_false (fun y => y z)]; rfl
        · rw [if_neg z]
          refine step 1 st' ?_
          rw [ebt, decide_eq_true z]; rfl
    · have e : b = 6 := by omega
      subst e
      rw [if_pos (show (6 : Int32) ≤ nI 6 by decide), nI_1]
      exact ⟨bt_, st, rfl, hB, fun _ _ => rfl⟩
theorem findBeats_6 (hM : M ≤ 10) (hn : N ≤ 200) (hmem : ∀ i, i < N → ∃ mi, mi < M ∧ mem i = nI mi) {sin sal : Int32} {mo sw : Nat → Int32} (S : Seated mem day tld blo wei d k N sin sal mo sw) {L : List (Nat × Nat)} {codes : Int32} {code cm op arg : Nat → Int32} {r : Nat} (hr : r < 4) (R : RuleIs L codes code r cm op arg) {fi ra hw wi : Nat → Int32} (hW : WishOk fi ra hw wi) (rb rw0 : Nat → Int32) (NN' vd vk : Int32) :
    ∀ (fuel a : Nat) (bt_ st : Nat → Int32), 6 - a < fuel → a ≤ 6 → (∀ a' i, a' < a → i < 6 → bt_ (6 * a' + i) = if bts sin sal mo sw fi ra L a' i = true then 1 else 0) →
      ∃ bt' st', F_X12_findBeats_6 (nI r) (nI M) NN' vd vk arg cm hw op blo day mem tld wei wi fuel (nI a) sin (sMany mem day tld blo d k N M) (sSum mem day tld blo wei d k N M) bt_ (fun j => if j < M then sB mem day tld blo d k N j else rb j) st (fun j => if j < M then sW mem day tld blo wei d k N j else rw0 j) =
        some (sin, sMany mem day tld blo d k N M, sSum mem day tld blo wei d k N M, bt', (fun j => if j < M then sB mem day tld blo d k N j else rb j), st', (fun j => if j < M then sW mem day tld blo wei d k N j else rw0 j)) ∧
        (∀ a' i, a' < 6 → i < 6 → bt' (6 * a' + i) = if bts sin sal mo sw fi ra L a' i = true then 1 else 0) := by
  intro fuel
  induction fuel with
  | zero => intro a bt_ st h; omega
  | succ n ih =>
    intro a bt_ st h ha hB
    rw [F_X12_findBeats_6]
    rcases Nat.lt_or_ge a 6 with hlt | hge
    · rw [if_neg (show ¬ (6 : Int32) ≤ nI a from nI_ge (b := 6) hlt (by omega))]
      obtain ⟨bt', st', g1, g2, g3⟩ := findBeats_14 hM hn hmem S hr R hW rb rw0 NN' vd vk hlt (F_X12_findBeats_6 (nI r) (nI M) NN' vd vk arg cm hw op blo day mem tld wei wi n) FU 0 bt_ st (by unfold FU; omega) (by omega) (fun i hi => by omega)
      rw [nI_0] at g1
      rw [g1]
      refine ih (a + 1) bt' st' (by omega) (by omega) (fun a' i ha' hi => ?_)
      by_cases e : a' = a
      · subst e; exact g2 i hi
      · rw [g3 _ (by omega)]; exact hB a' i (by omega) hi
    · have e : a = 6 := by omega
      subst e
      rw [if_pos (show (6 : Int32) ≤ nI 6 by decide)]
      exact ⟨bt_, st, rfl, hB⟩
theorem findBeats_s (hM : M ≤ 10) (hn : N ≤ 200) (hmem : ∀ i, i < N → ∃ mi, mi < M ∧ mem i = nI mi) {sin sal : Int32} {mo sw : Nat → Int32} (S : Seated mem day tld blo wei d k N sin sal mo sw) {L : List (Nat × Nat)} {codes : Int32} {code cm op arg : Nat → Int32} {r : Nat} (hr : r < 4) (R : RuleIs L codes code r cm op arg) {fi ra hw wi : Nat → Int32} (hW : WishOk fi ra hw wi) (al ma we : Int32) (bt_ st rb rw0 : Nat → Int32) :
    ∃ bt' st', F_X12_findBeats (nI r) al ma (nI M) (nI N) d k we arg bt_ rb cm hw op blo day mem tld wei st rw0 wi =
        some (sin, sMany mem day tld blo d k N M, sSum mem day tld blo wei d k N M, bt', (fun j => if j < M then sB mem day tld blo d k N j else rb j), st', (fun j => if j < M then sW mem day tld blo wei d k N j else rw0 j)) ∧
        (∀ a' i, a' < 6 → i < 6 → bt' (6 * a' + i) = if bts sin sal mo sw fi ra L a' i = true then 1 else 0) := by
  unfold F_X12_findBeats F_X12_findsView
  rw [finds_s d k hn hM, Option.bind_some, Option.bind_some]
  dsimp only
  have h := findBeats_6 hM hn hmem S hr R hW rb rw0 (nI N) d k FU 0 bt_ st (by unfold FU; omega) (by omega) (fun a' i h => by omega)
  rw [nI_0] at h
  rw [← sAll10 (day := day) (tld := tld) (blo := blo) (d := d) (k := k) hM hmem, ← S.1]
  exact h
end SB
