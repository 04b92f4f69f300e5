/-! THE LEAVES, and the reference's evaluation -/
theorem small10 {x : Int32} (h : ∀ i, 10 ≤ i → i < 32 → bt x i = false) : ∃ k, k < 1024 ∧ x = nI k := by
  refine ⟨x.toBitVec.toNat % 2 ^ 10, Nat.mod_lt _ (by decide), b_ext (fun i hi => ?_)⟩
  rw [bt_nI hi, Nat.testBit_mod_two_pow]
  by_cases c : i < 10
  · rw [decide_eq_true c, Bool.true_and]; rfl
  · rw [decide_eq_false c, Bool.false_and]; exact h i (by omega) hi
theorem nI_hi {k : Nat} (hk : k < 1024) : ∀ i, 10 ≤ i → i < 32 → bt (nI k) i = false := by
  intro i h1 h2
  rw [bt_nI h2]
  exact Nat.testBit_lt_two_pow (Nat.lt_of_lt_of_le (show k < 2 ^ 10 from hk) (Nat.pow_le_pow_right (by omega) h1))
theorem bitCount_x {x : Int32} (h : ∀ i, 10 ≤ i → i < 32 → bt x i = false) : F_J6_bitCount_0f7a4 x = some (hSum x 10) := by
  obtain ⟨k, hk, e⟩ := small10 h
  rw [e]; exact bitCount_s k hk
/-- what a leaf brings, asked of a set -/
def lfS (sin sal : Int32) (mo sw : Nat → Int32) (set : Int32) (s v : Nat) : Int32 :=
  if s = 7 then hSum set 10 else if s = 8 then wSum sw set 10 else if s = 9 then hSum sin 10 else if s = 10 then sal else if s = 11 then (if bt set v = true then 1 else 0) else if s = 12 then hSum (set &&& mo v) 10 else if s = 13 then wSum sw (set &&& mo v) 10 else nI v
theorem lfS_11 {sin sal : Int32} {mo sw : Nat → Int32} {set : Int32} (v : Nat) : lfS sin sal mo sw set 11 v = 0 ∨ lfS sin sal mo sw set 11 v = 1 := by
  unfold lfS
  rw [if_neg (by decide), if_neg (by decide), if_neg (by decide), if_neg (by decide), if_pos rfl]
  by_cases c : bt set v = true
  · rw [if_pos c]; exact Or.inr rfl
  · rw [if_neg c]; exact Or.inl rfl
theorem ofBloc_s {mo : Nat → Int32} {v : Nat} (hv : v < 6) : F_X7_ofBloc (nI v) mo = some (mo v) := by
  unfold F_X7_ofBloc
  rw [if_neg (nI_pos (by omega)), if_neg (show ¬ (6 : Int32) ≤ nI v from nI_ge (b := 6) hv (by omega)), gin_n hv (by omega), nI_clamp (by omega)]
theorem ask_s {set sin sal : Int32} {mo sw : Nat → Int32} (hset : ∀ i, 10 ≤ i → i < 32 → bt set i = false) (hsin : ∀ i, 10 ≤ i → i < 32 → bt sin i = false) {s v : Nat} (h1 : 6 ≤ s) (h2 : s < 14) (ho : opOk s v) :
    F_X6_ask (nI s) (nI v) set sal sin mo sw = some (lfS sin sal mo sw set s v) := by
  have hand : ∀ y, ∀ i, 10 ≤ i → i < 32 → bt (set &&& y) i = false := by
    intro y i a b
    rw [b_and, hset i a b, Bool.false_and]
  have e : ∀ j : Nat, j < 32 → ((nI s = nI j) ↔ s = j) := fun j hj => nI_eq (by omega) (by omega)
  unfold F_X6_ask lfS
  rw [show (7 : Int32) = nI 7 from rfl, show (8 : Int32) = nI 8 from rfl, show (9 : Int32) = nI 9 from rfl, show (10 : Int32) = nI 10 from rfl, show (11 : Int32) = nI 11 from rfl, show (12 : Int32) = nI 12 from rfl, show (13 : Int32) = nI 13 from rfl]
  simp only [e 7 (by omega), e 8 (by omega), e 9 (by omega), e 10 (by omega), e 11 (by omega), e 12 (by omega), e 13 (by omega)]
  by_cases c7 : s = 7
  · simp only [if_pos c7, bitCount_x hset, Option.bind_some]
  simp only [if_neg c7]
  by_cases c8 : s = 8
  · simp only [if_pos c8, weightOf_s, Option.bind_some]
  simp only [if_neg c8]
  by_cases c9 : s = 9
  · simp only [if_pos c9, bitCount_x hsin, Option.bind_some]
  simp only [if_neg c9]
  by_cases c10 : s = 10
  · simp only [if_pos c10]
  simp only [if_neg c10]
  by_cases c11 : s = 11
  · have hv := ho.2.2.1 c11
    simp only [if_pos c11, shr1 set (show v < 32 by omega)]
  simp only [if_neg c11]
  by_cases c12 : s = 12
  · have hv := ho.2.2.2 (Or.inl c12)
    simp only [if_pos c12, ofBloc_s hv, Option.bind_some, bitCount_x (hand _)]
  simp only [if_neg c12]
  by_cases c13 : s = 13
  · have hv := ho.2.2.2 (Or.inr c13)
    simp only [if_pos c13, ofBloc_s hv, Option.bind_some, weightOf_s]
  simp only [if_neg c13]
/-- the reference's codes of the class's signs -/
def opOf (s : Nat) : Nat := if s = 6 then 0 else if s ≤ 10 then 1 else if s = 11 then 3 else if s ≤ 13 then 2 else if s = 14 then 10 else if s ≤ 20 then s - 11 else s - 10
def argOf (s v : Nat) : Nat := if s = 6 ∨ s = 11 ∨ s = 12 then v else if s ≤ 10 then s - 7 else if s = 13 then 6 + v else 0
section CB
variable {mem day tld blo wei : Nat → Int32} {d k : Int32} {N M : Nat}
theorem sMany_h : ∀ m, m ≤ 10 → sMany mem day tld blo d k N m = hSum (sAll mem day tld blo d k N 10) m := by
  intro m
  induction m with
  | zero => intro _; rfl
  | succ m ih =>
    intro hm
    rw [sMany, hSum, ih (by omega), sAll_bt 10 (by omega) m (by omega), decide_eq_true (show m < 10 by omega), Bool.true_and]
    by_cases c : sB mem day tld blo d k N m = -1
    · rw [if_pos c, if_neg (by simp [c])]
    · rw [if_neg c, if_pos (by simp [c])]
/-- all that a set of those in needs: the leaves of the reference are the class's -/
theorem leaf_s (hM : M ≤ 10) (hn : N ≤ 200) (hmem : ∀ i, i < N → ∃ mi, mi < M ∧ mem i = nI mi) {sin sal : Int32} {mo sw : Nat → Int32} (S : Seated mem day tld blo wei d k N sin sal mo sw) {set : Int32} (hw : win set sin) {bl w op arg : Nat → Int32} (hbl : ∀ m, m < M → bl m = sB mem day tld blo d k N m) (hwr : ∀ m, m < M → w m = sW mem day tld blo wei d k N m)
    {q s v : Nat} (hq : q < 2500) (h1 : 6 ≤ s) (h2 : s < 14) (ho : opOk s v) (hop : op q = nI (opOf s)) (harg : arg q = nI (argOf s v)) :
    F_X12_leafOf (nI q) set (sMany mem day tld blo d k N M) (nI M) (sSum mem day tld blo wei d k N M) arg bl op w = some (lfS sin sal mo sw set s v) := by
  have hin : ∀ i, i < 32 → bt set i = true → i < M := by
    intro i hi hb
    have h3 := hw i hi hb
    rw [S.1, sAll_bt 10 (by omega) i hi, Bool.and_eq_true, decide_eq_true_iff, decide_eq_true_iff] at h3
    rcases Nat.lt_or_ge i M with c | c
    · exact c
    · exact absurd (sB_big hmem c (by omega)) h3.2
  have hhi : ∀ (y : Int32), (∀ i, i < 32 → bt y i = true → i < M) → ∀ i, M ≤ i → i < M + (10 - M) → bt y i = false := by
    intro y hy i a b
    cases c : bt y i
    · rfl
    · have := hy i (by omega) c; omega
  have h10 : ∀ (y : Int32), (∀ i, i < 32 → bt y i = true → i < M) → hSum y M = hSum y 10 := by
    intro y hy
    have := hSum_hi (x := y) (a := M) (10 - M) (hhi y hy)
    rw [show M + (10 - M) = 10 by omega] at this
    exact this.symm
  have w10 : ∀ (y : Int32), (∀ i, i < 32 → bt y i = true → i < M) → wSum sw y M = wSum sw y 10 := by
    intro y hy
    have := wSum_hi (w := sw) (x := y) (a := M) (10 - M) (hhi y hy)
    rw [show M + (10 - M) = 10 by omega] at this
    exact this.symm
  have hand : ∀ y i, i < 32 → bt (set &&& y) i = true → i < M := by
    intro y i hi hb
    rw [b_and, Bool.and_eq_true] at hb
    exact hin i hi hb.1
  have hwsw : ∀ m, m < M → w m = sw m := fun m hm => by rw [hwr m hm, S.2.2.2 m (by omega)]
  have hmo : ∀ b, b < 6 → ∀ m, m < M → (bt (mo b) m = true ↔ bl m = nI b) := by
    intro b hb m hm
    rw [S.2.2.1 b hb, sOf_bt b 10 (by omega) m (by omega), decide_eq_true (show m < 10 by omega), Bool.true_and, decide_eq_true_iff, hbl m hm]
  unfold F_X12_leafOf
  simp only [gin_n hq (show 2500 < 2 ^ 31 by omega), nI_clamp (show q < 2 ^ 31 by omega), hop, harg]
  unfold F_X12_askedOf lfS
  rcases (show s = 6 ∨ s = 7 ∨ s = 8 ∨ s = 9 ∨ s = 10 ∨ s = 11 ∨ s = 12 ∨ s = 13 by omega) with c | c | c | c | c | c | c | c <;> subst c
  · rfl
  · rw [show nI (opOf 7) = 1 from rfl, show nI (argOf 7 v) = 0 from rfl, if_neg one_ne, if_pos rfl, if_pos rfl, if_pos rfl, headsOf_s hM, hB_all, h10 set hin]
    rfl
  · rw [show nI (opOf 8) = 1 from rfl, show nI (argOf 8 v) = 1 from rfl, if_neg one_ne, if_pos rfl, if_neg one_ne, if_pos rfl, mweightOf_s hM, wB_all _ _ _ sw M hwsw, w10 set hin]
    rfl
  · rw [show nI (opOf 9) = 1 from rfl, show nI (argOf 9 v) = 2 from rfl, if_neg one_ne, if_pos rfl, if_neg (by decide), if_neg (by decide), if_pos rfl, sMany_h M (by omega), S.1, h10]
    · rfl
    · intro i hi hb
      rw [sAll_bt 10 (by omega) i hi, Bool.and_eq_true, decide_eq_true_iff, decide_eq_true_iff] at hb
      rcases Nat.lt_or_ge i M with c | c
      · exact c
      · exact absurd (sB_big hmem c (by omega)) hb.2
  · rw [show nI (opOf 10) = 1 from rfl, show nI (argOf 10 v) = 3 from rfl, if_neg one_ne, if_pos rfl, if_neg (by decide), if_neg (by decide), if_neg (by decide), S.2.1, sSum10 hM hmem]
    rfl
  · have hv := ho.2.2.1 rfl
    rw [show nI (opOf 11) = 3 from rfl, show argOf 11 v = v from rfl, if_neg (by decide), if_neg (by decide), if_pos rfl, isOf_s set (show v < 32 by omega), Option.bind_some]
    by_cases c : bt set v = true
    · simp only [if_pos c]
      rfl
    · simp only [if_neg c]
      rfl
  · have hv := ho.2.2.2 (Or.inl rfl)
    rw [show nI (opOf 12) = 2 from rfl, show argOf 12 v = v from rfl, if_neg (by decide), if_neg (by decide), if_neg (by decide), if_neg (show ¬ (6 : Int32) ≤ nI v from nI_ge (b := 6) hv (by omega)), headsOf_s hM, hB_bloc set (mo v) (nI v) bl (neg1_ne (by omega)) M (hmo v hv), h10 _ (hand _)]
    rfl
  · have hv := ho.2.2.2 (Or.inr rfl)
    rw [show nI (opOf 13) = 2 from rfl, show argOf 13 v = 6 + v from rfl, if_neg (by decide), if_neg (by decide), if_neg (by decide), if_pos (show (6 : Int32) ≤ nI (6 + v) from nI_le (a := 6) (by omega) (by omega)), show nI (6 + v) - 6 = nI v by rw [show (6 : Int32) = nI 6 from rfl, pk_sub (by omega), Nat.add_sub_cancel_left], mweightOf_s hM, wB_bloc set (mo v) (nI v) bl w sw (neg1_ne (by omega)) M (hmo v hv) hwsw, w10 _ (hand _)]
    rfl
end CB
/-! carriesBy: the reference's evaluation of a code -/
theorem two_s {s : Nat} (h1 : 15 ≤ s) (h2 : s ≤ 22) {a b : Int32} (h01 : 21 ≤ s → (a = 0 ∨ a = 1) ∧ (b = 0 ∨ b = 1)) : F_X12_twoOf (nI (opOf s)) a b = some (jn s a b) := by
  unfold F_X12_twoOf jn
  rcases (show s = 15 ∨ s = 16 ∨ s = 17 ∨ s = 18 ∨ s = 19 ∨ s = 20 ∨ s = 21 ∨ s = 22 by omega) with c | c | c | c | c | c | c | c <;> subst c
  · rfl
  · rfl
  · rfl
  · rw [show nI (opOf 18) = 7 from rfl, if_neg (by decide), if_neg (by decide), if_neg (by decide), if_pos rfl]
    by_cases q : b ≤ a
    · simp only [if_pos q]; rfl
    · simp only [if_neg q]; rfl
  · rw [show nI (opOf 19) = 8 from rfl, if_neg (by decide), if_neg (by decide), if_neg (by decide), if_neg (by decide), if_pos rfl]
    by_cases q : a = b
    · simp only [if_pos q]; rfl
    · simp only [if_neg q]; rfl
  · rw [show nI (opOf 20) = 9 from rfl, if_neg (by decide), if_neg (by decide), if_neg (by decide), if_neg (by decide), if_neg (by decide), if_pos rfl]
    by_cases q : a ≤ b
    · simp only [if_pos q]; rfl
    · simp only [if_neg q]; rfl
  · rcases (h01 (by omega)).1 with q | q <;> rcases (h01 (by omega)).2 with q2 | q2 <;> rw [q, q2] <;> decide
  · rcases (h01 (by omega)).1 with q | q <;> rcases (h01 (by omega)).2 with q2 | q2 <;> rw [q, q2] <;> decide
theorem carriesBy_20 {set many wIn mm : Int32} {bl w op arg cm : Nat → Int32} {lf : Nat → Nat → Int32} {r n : Nat} (hr4 : r < 5) (hn : n ≤ 400) (hcm : cm r = nI n)
    (hlf : ∀ q s v, q < 2500 → 6 ≤ s → s < 14 → opOk s v → op q = nI (opOf s) → arg q = nI (argOf s v) → F_X12_leafOf (nI q) set many mm wIn arg bl op w = some (lf s v)) (hl11 : ∀ v, v < 10 → lf 11 v = 0 ∨ lf 11 v = 1) :
    ∀ (L : List (Nat × Nat)) (i fuel : Nat) (T T' : List Bool) (V : List Int32) (row : Nat → Int32), i + L.length = n → L.length < fuel → (∀ j c, L[j]? = some c → op (500 * r + (i + j)) = nI (opOf c.1) ∧ arg (500 * r + (i + j)) = nI (argOf c.1 c.2) ∧ opOk c.1 c.2) → tRun L T = some T' → Ty T V → V.length ≤ 40 → onRow row V →
      ∃ row', F_X12_carriesBy_20 (nI r) set many mm wIn arg bl cm op w fuel (nI V.length) (nI (500 * r + i)) row = (gin (0 : Int32) 60 (if (row' (0 : Int32).toNatClampNeg) = 0 then (some ((0 : Int32), row')) else (some ((1 : Int32), row')))) ∧ onRow row' (eRun lf L V) ∧ Ty T' (eRun lf L V) := by
  intro L
  induction L with
  | nil =>
    intro i fuel T T' V row hi hf hc ht hT hV hr
    obtain ⟨f, rfl⟩ : ∃ f, fuel = f + 1 := ⟨fuel - 1, by simp only [List.length_nil] at hf; omega⟩
    simp only [List.length_nil, Nat.add_zero] at hi
    subst hi
    cases ht
    refine ⟨row, ?_, hr, hT⟩
    rw [F_X12_carriesBy_20, gin_n (by omega) (by omega), nI_clamp (by omega), hcm, show (500 : Int32) * nI r + nI i = nI (500 * r + i) by rw [show (500 : Int32) = nI 500 from rfl, pk_mul, nI_add], if_pos (nI_le (Nat.le_refl _) (by omega))]
  | cons c L ih =>
    intro i fuel T T' V row hi hf hc ht hT hV hr
    simp only [List.length_cons] at hi hf
    obtain ⟨f, rfl⟩ : ∃ f, fuel = f + 1 := ⟨fuel - 1, by omega⟩
    obtain ⟨s, v⟩ := c
    obtain ⟨hop1, harg1, hop⟩ := hc 0 (s, v) rfl
    dsimp only at hop1 harg1 hop
    rw [Nat.add_zero] at hop1 harg1
    obtain ⟨T1, ht1, ht2⟩ := bnd (show (tStep s T).bind (tRun L) = some T' from ht)
    have hc' : ∀ j c, L[j]? = some c → op (500 * r + (i + 1 + j)) = nI (opOf c.1) ∧ arg (500 * r + (i + 1 + j)) = nI (argOf c.1 c.2) ∧ opOk c.1 c.2 := by
      intro j c hj
      have := hc (j + 1) c hj
      rwa [show i + (j + 1) = i + 1 + j by omega] at this
    obtain ⟨hT1, hcase⟩ := tStep_cases lf v ht1 hT (fun e => hl11 v (hop.2.2.1 e))
    have hq : 500 * r + i < 2500 := by omega
    rw [F_X12_carriesBy_20, gin_n (by omega) (by omega), nI_clamp (by omega), hcm, show (500 : Int32) * nI r + nI n = nI (500 * r + n) by rw [show (500 : Int32) = nI 500 from rfl, pk_mul, nI_add], if_neg (nI_ge (by omega) (by omega))]
    simp only [gin_n hq (show 2500 < 2 ^ 31 by omega), nI_clamp (show 500 * r + i < 2 ^ 31 by omega), hop1, nI_1, show 500 * r + i + 1 = 500 * r + (i + 1) by omega]
    rcases hcase with ⟨h1, h2, h3, e⟩ | ⟨h1, a, z, rfl, e⟩ | ⟨h1, h2, a, b, z, rfl, e, h01⟩
    · have hle : opOf s ≤ 3 := by unfold opOf; split <;> (try split) <;> (try split) <;> (try split) <;> omega
      rw [if_neg (show ¬ (3 : Int32) < nI (opOf s) from nI_nlt (b := opOf s) (a := 3) hle (by omega)), hlf _ s v hq h1 h2 hop hop1 harg1, Option.bind_some, gin_n (by omega) (by omega), nI_clamp (by omega)]
      have := ih (i + 1) f T1 T' (lf s v :: V) (upd row V.length (lf s v)) (by omega) (by omega) hc' ht2 (e ▸ hT1) (by simp only [List.length_cons]; omega) ⟨upd_self _ _ _, onRow_upd (Nat.le_refl _) hr⟩
      rw [eRun, show eStep lf s v V = lf s v :: V from e]
      exact this
    · subst h1
      simp only [List.length_cons] at hV
      have hr1 : row z.length = a := hr.1
      rw [show nI (opOf 14) = 10 from rfl, if_pos (by decide), if_pos rfl]
      simp only [List.length_cons, nI_pred, gin_n (show z.length < 60 by omega) (show 60 < 2 ^ 31 by omega), nI_clamp (show z.length < 2 ^ 31 by omega), hr1]
      have := ih (i + 1) f T1 T' ((1 - a) :: z) (upd row z.length (1 - a)) (by omega) (by omega) hc' ht2 (e ▸ hT1) (by simp only [List.length_cons]; omega) ⟨upd_self _ _ _, onRow_upd (Nat.le_refl _) hr.2⟩
      rw [eRun, show eStep lf 14 v (a :: z) = (1 - a) :: z from e]
      exact this
    · simp only [List.length_cons] at hV
      have hr1 : row (z.length + 1) = b := hr.1
      have hr2 : row z.length = a := hr.2.1
      have hge : 3 < opOf s ∧ opOf s < 13 ∧ opOf s ≠ 10 := by unfold opOf; split <;> (try split) <;> (try split) <;> (try split) <;> (try split) <;> (try split) <;> omega
      rw [if_pos (show (3 : Int32) < nI (opOf s) from nI_lt (a := 3) hge.1 (by omega)), if_neg (show ¬ nI (opOf s) = (10 : Int32) from fun q => hge.2.2 ((nI_eq (b := 10) (by omega) (by omega)).mp q))]
      simp only [List.length_cons, nI_pred, gin_n (show z.length < 60 by omega) (show 60 < 2 ^ 31 by omega), gin_n (show z.length + 1 < 60 by omega) (show 60 < 2 ^ 31 by omega), nI_clamp (show z.length < 2 ^ 31 by omega), nI_clamp (show z.length + 1 < 2 ^ 31 by omega), hr1, hr2, two_s h1 h2 h01, Option.bind_some]
      have := ih (i + 1) f T1 T' (jn s a b :: z) (upd row z.length (jn s a b)) (by omega) (by omega) hc' ht2 (e ▸ hT1) (by simp only [List.length_cons]; omega) ⟨upd_self _ _ _, onRow_upd (Nat.le_refl _) hr.2.2⟩
      rw [eRun, show eStep lf s v (b :: a :: z) = jn s a b :: z from e]
      exact this
theorem carriesBy_s {set many wIn mm : Int32} {bl w op arg cm row : Nat → Int32} {lf : Nat → Nat → Int32} {r : Nat} {L : List (Nat × Nat)} (hr4 : r < 5) (hL : Good L) (hcm : cm r = nI L.length)
    (hlf : ∀ q s v, q < 2500 → 6 ≤ s → s < 14 → opOk s v → op q = nI (opOf s) → arg q = nI (argOf s v) → F_X12_leafOf (nI q) set many mm wIn arg bl op w = some (lf s v)) (hl11 : ∀ v, v < 10 → lf 11 v = 0 ∨ lf 11 v = 1) (hcode : ∀ j c, L[j]? = some c → op (500 * r + j) = nI (opOf c.1) ∧ arg (500 * r + j) = nI (argOf c.1 c.2)) :
    ∃ row', F_X12_carriesBy (nI r) set many mm wIn arg bl cm op row w = some (says lf L, row') := by
  unfold F_X12_carriesBy
  rw [gin_n hr4 (by omega), nI_clamp (by omega), hcm]
  rcases hL.2.2 with e | e
  · subst e
    exact ⟨row, by rw [if_pos (show nI ([] : List (Nat × Nat)).length = 0 from nI_0)]; rfl⟩
  · have hne : L ≠ [] := fun q => by rw [q] at e; cases e
    have hpos : 0 < L.length := List.length_pos_iff.mpr hne
    obtain ⟨row', h1, h2, h3⟩ := carriesBy_20 (set := set) (many := many) (wIn := wIn) (mm := mm) (bl := bl) (w := w) (op := op) (arg := arg) (cm := cm) hr4 hL.1 hcm hlf hl11 L 0 FU [] [true] [] row (by omega) (by unfold FU; have := hL.1; omega) (fun j c hj => ⟨by rw [Nat.zero_add]; exact (hcode j c hj).1, by rw [Nat.zero_add]; exact (hcode j c hj).2, hL.2.1 c (List.mem_of_getElem? hj)⟩) e trivial (Nat.zero_le _) trivial
    rw [show (nI ([] : List Int32).length) = (0 : Int32) from nI_0, Nat.add_zero, ← pk_mul 500 r] at h1
    rw [if_neg (nI_ne0 hpos (by have := hL.1; omega)), show (500 : Int32) = nI 500 from rfl, h1]
    match hV : eRun lf L [], h2, h3 with
    | [a], h2, h3 =>
      have ea : says lf L = a := by unfold says; rw [hV]
      have ha : a = 0 ∨ a = 1 := h3.1 rfl
      have hr0 : row' 0 = a := h2.1
      refine ⟨row', ?_⟩
      rw [show gin (0 : Int32) 60 = gin (nI 0) 60 by rw [nI_0], gin_n (by omega) (by omega), show (0 : Int32).toNatClampNeg = 0 from rfl, hr0, ea]
      rcases ha with q | q <;> rw [q]
      · rw [if_pos rfl]
      · rw [if_neg one_ne]
