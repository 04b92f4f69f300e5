/-! of AND look -/
theorem ne0_bt (x : Int32) : ¬ x = 0 ↔ ∃ i, i < 32 ∧ bt x i = true := by
  constructor
  · intro h
    refine Classical.byContradiction (fun q => h (b_ext (fun i hi => ?_)))
    rw [b_0]
    cases hb : bt x i
    · rfl
    · exact absurd ⟨i, hi, hb⟩ q
  · rintro ⟨i, _, h2⟩ e
    rw [e, b_0] at h2
    cases h2
/-- the weight of a set, by a row of weights -/
def wSum (w : Nat → Int32) (x : Int32) : Nat → Int32
  | 0 => 0
  | m + 1 => if bt x m = true then wSum w x m + w m else wSum w x m
theorem weightOf_4 (w : Nat → Int32) (x : Int32) : ∀ (fuel i : Nat), 10 - i < fuel → i ≤ 10 → F_X7_weightOf_4 x w fuel (wSum w x i) (nI i) = some (wSum w x 10) := by
  intro fuel
  induction fuel with
  | zero => intro i h; omega
  | succ n ih =>
    intro i h hi
    rw [F_X7_weightOf_4]
    rcases Nat.lt_or_ge i 10 with hlt | hge
    · have next := ih (i + 1) (by omega) (by omega)
      rw [if_neg (show ¬ (10 : Int32) ≤ nI i from nI_ge (b := 10) hlt (by omega)), nI_1]
      rw [wSum] at next
      by_cases c : bt x i = true
      · rw [if_neg (fun q => by rw [(shr1_0 x (by omega)).mp q] at c; cases c), gin, if_neg (nI_in (by omega) (by omega)), nI_clamp (by omega)]
        rw [if_pos c] at next; exact next
      · rw [if_pos ((shr1_0 x (by omega)).mpr (by simpa using c))]
        rw [if_neg c] at next; exact next
    · have e : i = 10 := by omega
      subst e
      rw [if_pos (show (10 : Int32) ≤ nI 10 from nI_le (a := 10) (Nat.le_refl _) (by omega))]
theorem weightOf_s (w : Nat → Int32) (x : Int32) : F_X7_weightOf x w = some (wSum w x 10) := by
  unfold F_X7_weightOf
  have h := weightOf_4 w x FU 0 (by unfold FU; omega) (by omega)
  rw [nI_0, wSum] at h
  exact h
theorem wSum_one (w : Nat → Int32) {m : Nat} (hm : m < 32) : ∀ n, n ≤ 32 → wSum w ((1 : Int32) <<< (nI m &&& 31)) n = if m < n then w m else 0 := by
  intro n
  induction n with
  | zero => intro _; rw [wSum, if_neg (by omega)]
  | succ n ih =>
    intro hn
    rw [wSum, b_one hm (by omega), ih (by omega)]
    by_cases e : n = m
    · subst e
      rw [if_pos (by simp), if_neg (by omega), if_pos (by omega), Int32.zero_add]
    · rw [if_neg (by simpa using e)]
      by_cases h2 : m < n
      · rw [if_pos h2, if_pos (by omega)]
      · rw [if_neg h2, if_neg (by omega)]
theorem blocOf_2 (mo : Nat → Int32) {m : Nat} (hm : m < 32) : ∀ (fuel i : Nat), 6 - i < fuel → i ≤ 6 → (∀ b, b < i → bt (mo b) m = false) → (∀ b, b < 6 → bt (mo b) m = true → F_X7_blocOf_2 (nI m) mo fuel (nI i) = some (nI b) ∨ ∃ c, c < b ∧ i ≤ c ∧ bt (mo c) m = true) := by
  intro fuel
  induction fuel with
  | zero => intro i h; omega
  | succ n ih =>
    intro i h hi hlo b hb hbt
    rw [F_X7_blocOf_2]
    have hib : i ≤ b := by
      rcases Nat.lt_or_ge b i with q | q
      · rw [hlo b q] at hbt; cases hbt
      · exact q
    rw [if_neg (show ¬ (6 : Int32) ≤ nI i from nI_ge (b := 6) (by omega) (by omega)), gin, if_neg (nI_in (by omega) (by omega)), nI_clamp (by omega), has_s _ hm, Option.bind_some, nI_1]
    by_cases c : bt (mo i) m = true
    · rw [if_pos c, if_neg (by decide)]
      by_cases e : i = b
      · left; rw [e]
      · right; exact ⟨i, by omega, by omega, c⟩
    · rw [if_neg c, if_pos rfl]
      have hne : ¬ i = b := fun e => c (e ▸ hbt)
      rcases ih (i + 1) (by omega) (by omega) (fun z hz => by
        by_cases e : z = i
        · subst e; simpa using c
        · exact hlo z (by omega)) b hb hbt with q | ⟨z, q1, q2, q3⟩
      · left; exact q
      · right; exact ⟨z, q1, by omega, q3⟩
theorem blocOf_s (mo : Nat → Int32) {m b : Nat} (hm : m < 32) (hb : b < 6) (h : bt (mo b) m = true) (hu : ∀ c, c < 6 → bt (mo c) m = true → c = b) : F_X7_blocOf (nI m) mo = some (nI b) := by
  unfold F_X7_blocOf
  rcases blocOf_2 mo hm FU 0 (by unfold FU; omega) (by omega) (fun z hz => by omega) b hb h with q | ⟨c, q1, _, q3⟩
  · rw [nI_0] at q; exact q
  · have := hu c (by omega) q3; omega
section OL
variable {mem day tld blo wei : Nat → Int32} {d k : Int32} {N M : Nat}
/-- the class's seats are the seating -/
def Seated (mem day tld blo wei : Nat → Int32) (d k : Int32) (N : Nat) (sin sal : Int32) (mo sw : Nat → Int32) : Prop :=
  sin = sAll mem day tld blo d k N 10 ∧ sal = sSum mem day tld blo wei d k N 10 ∧ (∀ b, b < 6 → mo b = sOf mem day tld blo d k N b 10) ∧ (∀ j, j < 10 → sw j = sW mem day tld blo wei d k N j)
theorem sAll10 (hM : M ≤ 10) (hmem : ∀ i, i < N → ∃ mi, mi < M ∧ mem i = nI mi) : sAll mem day tld blo d k N 10 = sAll mem day tld blo d k N M := by
  have h := sAll_M (day := day) (tld := tld) (blo := blo) (d := d) (k := k) hmem (10 - M) (by omega)
  rwa [show M + (10 - M) = 10 by omega] at h
theorem sSum10 (hM : M ≤ 10) (hmem : ∀ i, i < N → ∃ mi, mi < M ∧ mem i = nI mi) : sSum mem day tld blo wei d k N 10 = sSum mem day tld blo wei d k N M := by
  have h := sSum_M (day := day) (tld := tld) (blo := blo) (wei := wei) (d := d) (k := k) hmem (10 - M) (by omega)
  rwa [show M + (10 - M) = 10 by omega] at h
/-- the blocs that have somebody: the same on both sides -/
theorem blocs_same (hM : M ≤ 10) (hn : N ≤ 200) (hmem : ∀ i, i < N → ∃ mi, mi < M ∧ mem i = nI mi) (hblo : ∀ i, i < N → blo i = -1 ∨ ∃ b, b < 6 ∧ blo i = nI b) {sin sal : Int32} {mo sw rb : Nat → Int32} (S : Seated mem day tld blo wei d k N sin sal mo sw) :
    cBlocs mo 6 = mBlocs (sAll mem day tld blo d k N M) (fun j => if j < M then sB mem day tld blo d k N j else rb j) M := by
  apply b_ext
  intro i hi
  have hrng : ∀ m, m < M → bt (sAll mem day tld blo d k N M) m = true → ∃ b, b < 6 ∧ (fun j => if j < M then sB mem day tld blo d k N j else rb j) m = nI b := by
    intro m hm hb
    rw [sAll_bt M (by omega) m (by omega)] at hb
    show ∃ b, b < 6 ∧ (if m < M then sB mem day tld blo d k N m else rb m) = nI b
    rw [if_pos hm]
    rcases sB_rng (mem := mem) (day := day) (tld := tld) (d := d) (k := k) hn hblo m with q | q
    · simp [q] at hb
    · exact q
  have h1 := cBlocs_bt mo 6 (by omega) i hi
  have h2 := mBlocs_bt M (by omega) hrng i hi
  rw [Bool.eq_iff_iff, h2, h1, Bool.and_eq_true, decide_eq_true_iff, decide_eq_true_iff]
  constructor
  · rintro ⟨h6, hne⟩
    rw [S.2.2.1 i h6, ne0_bt] at hne
    obtain ⟨m, hm, hb⟩ := hne
    rw [sOf_bt i 10 (by omega) m hm, Bool.and_eq_true, decide_eq_true_iff, decide_eq_true_iff] at hb
    have hmM : m < M := by
      rcases Nat.lt_or_ge m M with q | q
      · exact q
      · have e := sB_big (day := day) (tld := tld) (blo := blo) (d := d) (k := k) hmem q (by omega)
        rw [e] at hb
        exact absurd hb.2.symm (neg1_ne (by omega))
    refine ⟨m, hmM, ?_, ?_⟩
    · rw [sAll_bt M (by omega) m hm, decide_eq_true hmM, Bool.true_and, decide_eq_true_iff, hb.2]
      exact neg1_ne (by omega)
    · show (if m < M then sB mem day tld blo d k N m else rb m) = nI i
      rw [if_pos hmM]; exact hb.2
  · rintro ⟨m, hm, hb, e⟩
    obtain ⟨b, hb6, eb⟩ := hrng m hm hb
    have hib : i = b := by
      have e2 := e.symm.trans eb
      rwa [nI_eq (by omega) (by omega)] at e2
    subst hib
    refine ⟨hb6, ?_⟩
    rw [S.2.2.1 i hb6, ne0_bt]
    refine ⟨m, by omega, ?_⟩
    rw [sOf_bt i 10 (by omega) m (by omega), decide_eq_true (show m < 10 by omega), Bool.true_and, decide_eq_true_iff]
    have e3 : (if m < M then sB mem day tld blo d k N m else rb m) = nI i := e
    rwa [if_pos hm] at e3
theorem look_both (hM : M ≤ 10) (hn : N ≤ 200) (hmem : ∀ i, i < N → ∃ mi, mi < M ∧ mem i = nI mi) (hblo : ∀ i, i < N → blo i = -1 ∨ ∃ b, b < 6 ∧ blo i = nI b) {sin sal : Int32} {mo sw : Nat → Int32} (S : Seated mem day tld blo wei d k N sin sal mo sw) (x al ma we told : Int32) (rb rw : Nat → Int32) :
    ∃ a, F_X11_look x (nI M) d k (nI N) sin mo = some a ∧ ∃ o2, F_X12_look x al ma (nI M) (nI N) told d k we rb blo day mem tld wei rw = some (a, o2) := by
  unfold F_X11_look F_X12_look F_X12_findsView
  rw [finds_s d k hn hM, Option.bind_some, Option.bind_some, blocs_s, Option.bind_some]
  dsimp only
  rw [blocsIn_s hM, Option.bind_some, blocs_same (rb := rb) hM hn hmem hblo S, S.1, sAll10 hM hmem]
  by_cases h0 : x = 0
  · exact ⟨_, by rw [if_pos h0], _, by rw [if_pos h0]⟩
  rw [if_neg h0, if_neg h0]
  by_cases h1 : x = 1
  · exact ⟨_, by rw [if_pos h1], _, by rw [if_pos h1]⟩
  rw [if_neg h1, if_neg h1]
  by_cases h2 : x = 2
  · exact ⟨_, by rw [if_pos h2], _, by rw [if_pos h2]⟩
  rw [if_neg h2, if_neg h2]
  by_cases h3 : x = 3
  · exact ⟨_, by rw [if_pos h3], _, by rw [if_pos h3]⟩
  rw [if_neg h3, if_neg h3]
  by_cases h4 : x = 4
  · exact ⟨_, by rw [if_pos h4], _, by rw [if_pos h4]⟩
  rw [if_neg h4, if_neg h4]
  by_cases h5 : x = 5
  · exact ⟨_, by rw [if_pos h5], _, by rw [if_pos h5]⟩
  exact ⟨_, by rw [if_neg h5], _, by rw [if_neg h5]⟩
end OL
section OF
variable {mem day tld blo wei : Nat → Int32} {d k : Int32} {N M : Nat}
/-- the first wishes: the class's row and the reference's -/
def Firsts (fi hw wi : Nat → Int32) : Prop := ∀ m, m < 10 → fi m = if hw m = 0 then -1 else wi (6 * m)
theorem of_both (hM : M ≤ 10) (hn : N ≤ 200) (hmem : ∀ i, i < N → ∃ mi, mi < M ∧ mem i = nI mi) (hblo : ∀ i, i < N → blo i = -1 ∨ ∃ b, b < 6 ∧ blo i = nI b) {sin sal : Int32} {mo sw fi hw wi : Nat → Int32} (S : Seated mem day tld blo wei d k N sin sal mo sw) (hF : Firsts fi hw wi) (x y al ma we told : Int32) (rb rw : Nat → Int32) :
    ∃ a, F_X11_of x y (nI M) fi sin mo sw = some a ∧ ∃ o2, F_X12_of x y al ma (nI M) (nI N) told d k we rb hw blo day mem tld wei rw wi = some (a, o2) := by
  unfold F_X11_of F_X12_of F_X12_findsView
  rw [isMember_s, inside_s, isIn_s]
  simp only [Option.bind_some]
  by_cases hx : 0 ≤ x ∧ x < nI M
  · simp only [if_pos hx, if_neg one_ne]
    obtain ⟨m, hm31, em⟩ := nI_of (Int32.not_lt.mpr hx.1)
    subst em
    have hm : m < M := (nI_ltI hm31 (by omega)).mp hx.2
    have hcl : (nI m).toNatClampNeg = m := nI_clamp hm31
    have g10 : ∀ {α : Type} (z : Option α), gin (nI m) 10 z = z := fun z => gin_n (by omega) (by omega) z
    have hbt := sAll_bt (mem := mem) (day := day) (tld := tld) (blo := blo) (d := d) (k := k) (N := N) M (by omega) m (by omega)
    rw [decide_eq_true hm, Bool.true_and] at hbt
    rw [S.1, sAll10 hM hmem, has_s _ (show m < 32 by omega), finds_s d k hn hM]
    simp only [Option.bind_some, isOf_s _ (show m < 32 by omega), hcl, g10]
    by_cases hy : 0 ≤ y ∧ y ≤ 2
    · simp only [if_pos hy, if_neg one_ne]
      by_cases h2 : y = 2
      · simp only [if_pos h2]
        unfold F_X4_firstOf
        rw [show (10 : Int32) = nI 10 from rfl, inside_n hm31 (by omega), if_pos (show m < 10 by omega)]
        simp only [Option.bind_some, if_neg one_ne, g10, hcl]
        rw [hF m (by omega)]
        by_cases h0 : hw m = 0
        · simp only [if_pos h0]
          exact ⟨_, rfl, _, rfl⟩
        · have e6 : (6 : Int32) * nI m = nI (6 * m) := pk_mul 6 m
          simp only [if_neg h0, e6, gin_n (show 6 * m < 60 by omega) (show 60 < 2 ^ 31 by omega), nI_clamp (show 6 * m < 2 ^ 31 by omega)]
          exact ⟨_, rfl, _, rfl⟩
      · simp only [if_neg h2]
        by_cases hin : sB mem day tld blo d k N m = -1
        · have hf : bt (sAll mem day tld blo d k N M) m = false := by rw [hbt]; simp [hin]
          simp only [hf, if_neg (show ¬ false = true by decide)]
          exact ⟨_, rfl, _, rfl⟩
        · have ht : bt (sAll mem day tld blo d k N M) m = true := by rw [hbt]; simp [hin]
          simp only [ht, if_neg one_ne]
          by_cases h0 : y = 0
          · simp only [if_pos h0]
            rw [weightOf_s, wSum_one _ (show m < 32 by omega) 10 (by omega), if_pos (show m < 10 by omega), S.2.2.2 m (by omega)]
            simp only [Option.bind_some, if_pos hm]
            exact ⟨_, rfl, _, rfl⟩
          · have h1 : y = 1 := by
              obtain ⟨j, hj, ej⟩ := nI_of2 (x := y) (M := 2) (n := 2) (by decide) (Int32.not_lt.mpr hy.1) hy.2
              rcases (show j = 0 ∨ j = 1 ∨ j = 2 by omega) with q | q | q <;> subst q
              · exact absurd ej h0
              · exact ej
              · exact absurd ej h2
            simp only [if_neg h0, if_pos h1]
            obtain ⟨b, hb, eb⟩ : ∃ b, b < 6 ∧ sB mem day tld blo d k N m = nI b := by
              rcases sB_rng (mem := mem) (day := day) (tld := tld) (d := d) (k := k) hn hblo m with q | q
              · exact absurd q hin
              · exact q
            have hmo : ∀ c, c < 6 → bt (mo c) m = decide (sB mem day tld blo d k N m = nI c) := by
              intro c hc
              rw [S.2.2.1 c hc, sOf_bt c 10 (by omega) m (by omega), decide_eq_true (show m < 10 by omega), Bool.true_and]
            have hbo : F_X7_blocOf (nI m) mo = some (nI b) := by
              refine blocOf_s mo (by omega) hb ?_ ?_
              · rw [hmo b hb]; exact decide_eq_true eb
              · intro c hc q
                rw [hmo c hc, decide_eq_true_iff, eb, nI_eq (by omega) (by omega)] at q
                exact q.symm
            rw [hbo]
            simp only [Option.bind_some, if_pos hm, eb]
            exact ⟨_, rfl, _, rfl⟩
    · have hne : ∀ j : Nat, j ≤ 2 → ¬ y = nI j := by
        intro j hj e
        apply hy
        rw [e]
        exact ⟨nI_pos' (by omega), nI_le (b := 2) hj (by omega)⟩
      have h0 : ¬ y = 0 := hne 0 (by omega)
      have h1 : ¬ y = 1 := hne 1 (by omega)
      have h2 : ¬ y = 2 := hne 2 (by omega)
      simp only [if_neg hy, if_neg h0, if_neg h1, if_neg h2]
      refine ⟨-1, ?_, _, rfl⟩
      by_cases c : bt (sAll mem day tld blo d k N M) m = true
      · rw [if_pos c, if_neg one_ne]
      · rw [if_neg c, if_pos rfl]
  · simp only [if_neg hx]
    exact ⟨_, rfl, _, rfl⟩
end OF
