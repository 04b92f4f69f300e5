/-! holds: the class's evaluation of a code -/
theorem code_sign {s v : Nat} (hs : s < 32) (hv : v < 16384) : nI (s * 16384 + v) >>> ((14 : Int32) &&& 31) = nI s := by
  rw [pk_shrN (by omega) _ 14 (by decide)]
  congr 1
  omega
theorem code_opnd {s v : Nat} (hs : s < 32) (hv : v < 16384) : nI (s * 16384 + v) &&& 16383 = nI v := by
  rw [pk_andN (by omega) 14 (by decide)]
  congr 1
  omega
theorem join_s {s : Nat} (h1 : 15 ≤ s) (h2 : s ≤ 22) (a b : Int32) : F_X6_join (nI s) a b = some (jn s a b) := by
  unfold F_X6_join jn
  have e : ∀ j : Nat, j < 32 → ((nI s = nI j) ↔ s = j) := fun j hj => nI_eq (by omega) (by omega)
  rw [show (15 : Int32) = nI 15 from rfl, show (16 : Int32) = nI 16 from rfl, show (17 : Int32) = nI 17 from rfl, show (18 : Int32) = nI 18 from rfl, show (19 : Int32) = nI 19 from rfl, show (20 : Int32) = nI 20 from rfl, show (21 : Int32) = nI 21 from rfl]
  by_cases c1 : s = 15
  · rw [if_pos ((e 15 (by omega)).mpr c1), if_pos c1]
  rw [if_neg (fun q => c1 ((e 15 (by omega)).mp q)), if_neg c1]
  by_cases c2 : s = 16
  · rw [if_pos ((e 16 (by omega)).mpr c2), if_pos c2]
  rw [if_neg (fun q => c2 ((e 16 (by omega)).mp q)), if_neg c2]
  by_cases c3 : s = 17
  · rw [if_pos ((e 17 (by omega)).mpr c3), if_pos c3]
  rw [if_neg (fun q => c3 ((e 17 (by omega)).mp q)), if_neg c3]
  by_cases c4 : s = 18
  · rw [if_pos ((e 18 (by omega)).mpr c4), if_pos c4]
    by_cases q : b ≤ a
    · rw [if_pos q, if_pos q]
    · rw [if_neg q, if_neg q]
  rw [if_neg (fun q => c4 ((e 18 (by omega)).mp q)), if_neg c4]
  by_cases c5 : s = 19
  · rw [if_pos ((e 19 (by omega)).mpr c5), if_pos c5]
    by_cases q : a = b
    · rw [if_pos q, if_pos q]
    · rw [if_neg q, if_neg q]
  rw [if_neg (fun q => c5 ((e 19 (by omega)).mp q)), if_neg c5]
  by_cases c6 : s = 20
  · rw [if_pos ((e 20 (by omega)).mpr c6), if_pos c6]
    by_cases q : a ≤ b
    · rw [if_pos q, if_pos q]
    · rw [if_neg q, if_neg q]
  rw [if_neg (fun q => c6 ((e 20 (by omega)).mp q)), if_neg c6]
  by_cases c7 : s = 21
  · rw [if_pos ((e 21 (by omega)).mpr c7), if_pos c7]
  rw [if_neg (fun q => c7 ((e 21 (by omega)).mp q)), if_neg c7]
theorem pk_m1' (n : Nat) : nI (n + 1) + (-1 : Int32) = nI n := pk_m1 n
theorem nI_pred2 (n : Nat) : nI (n + 2) - 2 = nI n := pk_sub (a := n + 2) (b := 2) (by omega)
theorem holds_5 {set al inn : Int32} {mo sw code : Nat → Int32} {lf : Nat → Nat → Int32} {n : Nat} (hn : n ≤ 400)
    (hlf : ∀ s v, 6 ≤ s → s < 14 → opOk s v → F_X6_ask (nI s) (nI v) set al inn mo sw = some (lf s v)) (hl11 : ∀ v, v < 10 → lf 11 v = 0 ∨ lf 11 v = 1) :
    ∀ (L : List (Nat × Nat)) (i fuel : Nat) (T T' : List Bool) (V : List Int32) (row : Nat → Int32), i + L.length = n → L.length < fuel → (∀ j c, L[j]? = some c → code (i + j) = nI (c.1 * 16384 + c.2) ∧ opOk c.1 c.2) → tRun L T = some T' → Ty T V → V.length ≤ 40 → onRow row V →
      ∃ row', F_X6_holds_5 set al inn mo sw (nI n) code fuel (nI V.length) (nI i) row = F_X6_holds_182 al inn mo sw (nI n) code (nI (eRun lf L V).length) row' ∧ onRow row' (eRun lf L V) ∧ Ty T' (eRun lf L V) := by
  intro L
  induction L with
  | nil =>
    intro i fuel T T' V row hi hf hc ht hT hV hr
    obtain ⟨f, rfl⟩ : ∃ f, fuel = f + 1 := ⟨fuel - 1, by simp only [List.length_nil] at hf; omega⟩
    simp only [List.length_nil, Nat.add_zero] at hi
    subst hi
    cases ht
    refine ⟨row, ?_, hr, hT⟩
    rw [F_X6_holds_5, if_pos (nI_le (Nat.le_refl _) (by omega))]
    rfl
  | cons c L ih =>
    intro i fuel T T' V row hi hf hc ht hT hV hr
    simp only [List.length_cons] at hi hf
    obtain ⟨f, rfl⟩ : ∃ f, fuel = f + 1 := ⟨fuel - 1, by omega⟩
    obtain ⟨s, v⟩ := c
    obtain ⟨hcode, hop⟩ := hc 0 (s, v) rfl
    dsimp only at hcode hop
    rw [Nat.add_zero] at hcode
    obtain ⟨T1, ht1, ht2⟩ := bnd (show (tStep s T).bind (tRun L) = some T' from ht)
    have hc' : ∀ j c, L[j]? = some c → code (i + 1 + j) = nI (c.1 * 16384 + c.2) ∧ opOk c.1 c.2 := by
      intro j c hj
      have := hc (j + 1) c hj
      rwa [show i + (j + 1) = i + 1 + j by omega] at this
    obtain ⟨hT1, hcase⟩ := tStep_cases lf v ht1 hT (fun e => hl11 v (hop.2.2.1 e))
    have hs : s < 32 := by rcases hcase with q | q | q <;> omega
    rw [F_X6_holds_5, if_neg (nI_ge (by omega) (by omega)), if_neg (show ¬ (400 : Int32) ≤ nI i from nI_ge (b := 400) (by omega) (by omega))]
    simp only [gin_n (show i < 400 by omega) (show 400 < 2 ^ 31 by omega), nI_clamp (show i < 2 ^ 31 by omega), hcode, code_sign hs hop.1, code_opnd hs hop.1, nI_1]
    rw [show (40 : Int32) = nI 40 from rfl, show (14 : Int32) = nI 14 from rfl]
    rcases hcase with ⟨h1, h2, h3, e⟩ | ⟨h1, a, r, rfl, e⟩ | ⟨h1, h2, a, b, r, rfl, e, -⟩
    · rw [if_neg (nI_ge h2 (by omega)), inside_n (by omega) (by omega), if_pos h3, Option.bind_some, if_neg one_ne, hlf s v h1 h2 hop, Option.bind_some, gin_n h3 (by omega), nI_clamp (by omega)]
      have := ih (i + 1) f T1 T' (lf s v :: V) (upd row V.length (lf s v)) (by omega) (by omega) hc' ht2 (e ▸ hT1) (by simp only [List.length_cons]; omega) ⟨upd_self _ _ _, onRow_upd (Nat.le_refl _) hr⟩
      rw [eRun, show eStep lf s v V = lf s v :: V from e]
      exact this
    · subst h1
      simp only [List.length_cons] at hV
      have hr1 : row r.length = a := hr.1
      rw [if_pos (nI_le (Nat.le_refl _) (by omega)), if_pos rfl]
      simp only [List.length_cons, nI_pred]
      rw [inside_n (by omega) (by omega), if_pos (show r.length < 40 by omega), Option.bind_some, if_neg one_ne]
      simp only [gin_n (show r.length < 40 by omega) (show 40 < 2 ^ 31 by omega), nI_clamp (show r.length < 2 ^ 31 by omega), hr1]
      have := ih (i + 1) f T1 T' ((1 - a) :: r) (upd row r.length (1 - a)) (by omega) (by omega) hc' ht2 (e ▸ hT1) (by simp only [List.length_cons]; omega) ⟨upd_self _ _ _, onRow_upd (Nat.le_refl _) hr.2⟩
      rw [eRun, show eStep lf 14 v (a :: r) = (1 - a) :: r from e]
      exact this
    · simp only [List.length_cons] at hV
      have hr1 : row (r.length + 1) = b := hr.1
      have hr2 : row r.length = a := hr.2.1
      rw [if_pos (nI_le (by omega) (by omega)), if_neg (fun q => by rw [nI_eq (by omega) (by omega)] at q; omega)]
      simp only [List.length_cons, nI_pred]
      rw [inside_n (by omega) (by omega), if_pos (show r.length + 1 < 40 by omega), Option.bind_some, if_neg one_ne, if_neg (show ¬ nI (r.length + 1 + 1) ≤ (1 : Int32) from nI_ge (b := r.length + 1 + 1) (a := 1) (by omega) (by omega)), nI_pred2]
      simp only [gin_n (show r.length < 40 by omega) (show 40 < 2 ^ 31 by omega), gin_n (show r.length + 1 < 40 by omega) (show 40 < 2 ^ 31 by omega), nI_clamp (show r.length < 2 ^ 31 by omega), nI_clamp (show r.length + 1 < 2 ^ 31 by omega), hr1, hr2, join_s h1 h2, Option.bind_some, pk_m1']
      have := ih (i + 1) f T1 T' (jn s a b :: r) (upd row r.length (jn s a b)) (by omega) (by omega) hc' ht2 (e ▸ hT1) (by simp only [List.length_cons]; omega) ⟨upd_self _ _ _, onRow_upd (Nat.le_refl _) hr.2.2⟩
      rw [eRun, show eStep lf s v (b :: a :: r) = jn s a b :: r from e]
      exact this
/-- a rule's code: empty, or of the right kind -/
def Good (L : List (Nat × Nat)) : Prop := L.length ≤ 400 ∧ (∀ c ∈ L, opOk c.1 c.2) ∧ (L = [] ∨ tRun L [] = some [true])
/-- what it says: 1 carries, 0 doesn't -/
def says (lf : Nat → Nat → Int32) (L : List (Nat × Nat)) : Int32 := match eRun lf L [] with
  | a :: _ => a
  | [] => 0
theorem says_01 {lf : Nat → Nat → Int32} (hl11 : ∀ v, v < 10 → lf 11 v = 0 ∨ lf 11 v = 1) {L : List (Nat × Nat)} {T' : List Bool} : ∀ (M : List (Nat × Nat)) (T : List Bool) (V : List Int32), (∀ c ∈ M, opOk c.1 c.2) → tRun M T = some T' → Ty T V → Ty T' (eRun lf M V) := by
  intro M
  induction M with
  | nil => intro T V _ h hT; cases h; exact hT
  | cons c M ih =>
    intro T V hop h hT
    obtain ⟨T1, ht1, ht2⟩ := bnd (show (tStep c.1 T).bind (tRun M) = some T' from h)
    exact ih T1 _ (fun c hc => hop c (List.mem_cons_of_mem _ hc)) ht2 (tStep_cases lf c.2 ht1 hT (fun e => hl11 c.2 ((hop c List.mem_cons_self).2.2.1 e))).1
theorem holds_s {set al inn : Int32} {mo sw code row : Nat → Int32} {lf : Nat → Nat → Int32} {L : List (Nat × Nat)} (hL : Good L)
    (hlf : ∀ s v, 6 ≤ s → s < 14 → opOk s v → F_X6_ask (nI s) (nI v) set al inn mo sw = some (lf s v)) (hl11 : ∀ v, v < 10 → lf 11 v = 0 ∨ lf 11 v = 1) (hcode : ∀ j c, L[j]? = some c → code j = nI (c.1 * 16384 + c.2)) :
    ∃ row', F_X6_holds set al inn mo sw (nI L.length) code row = some (says lf L, row') ∧ (says lf L = 0 ∨ says lf L = 1) := by
  unfold F_X6_holds
  rcases hL.2.2 with e | e
  · subst e
    refine ⟨row, ?_, Or.inl rfl⟩
    unfold FU
    rw [F_X6_holds_5, if_pos (by decide)]
    unfold F_X6_holds_182
    rw [if_pos (by decide)]
    rfl
  · obtain ⟨row', h1, h2, h3⟩ := holds_5 (set := set) (al := al) (inn := inn) (mo := mo) (sw := sw) (code := code) hL.1 hlf hl11 L 0 FU [] [true] [] row (by omega) (by unfold FU; have := hL.1; omega) (fun j c hj => ⟨by rw [Nat.zero_add]; exact hcode j c hj, hL.2.1 c (List.mem_of_getElem? hj)⟩) e trivial (Nat.zero_le _) trivial
    rw [show (nI ([] : List Int32).length) = (0 : Int32) from nI_0, nI_0] at h1
    rw [h1]
    match hV : eRun lf L [], h2, h3 with
    | [a], h2, h3 =>
      have ea : says lf L = a := by unfold says; rw [hV]
      have ha : a = 0 ∨ a = 1 := h3.1 rfl
      have hr0 : row' 0 = a := h2.1
      refine ⟨row', ?_, ea ▸ ha⟩
      unfold F_X6_holds_182
      rw [show (nI [a].length) = (1 : Int32) from rfl, if_neg (by decide)]
      rw [show gin (0 : Int32) 40 = gin (nI 0) 40 by rw [nI_0], gin_n (by omega) (by omega), show (0 : Int32).toNatClampNeg = 0 from rfl, hr0, ea]
      rcases ha with q | q <;> rw [q]
      · rw [if_pos rfl]
      · rw [if_neg one_ne]
