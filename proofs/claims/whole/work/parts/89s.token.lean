/-! the two readers' next tokens are one -/
def sTk (s : Nat) : Nat := [0, 1, 4, 4, 4, 2, 3, 2, 2, 2, 2, 2, 1, 1, 2, 4, 4, 4, 4, 4, 4, 2, 2].getD s 1
def sVal (s : Nat) : Nat := [0, 0, 59, 40, 41, 4, 0, 0, 1, 2, 3, 5, 0, 0, 8, 43, 45, 42, 60, 61, 62, 7, 6].getD s 0
/-- the reference's token and value for a sign and its number -/
def TR (s v : Nat) (tk va : Int32) : Prop := tk = nI (sTk s) ∧ (s = 6 → va = nI v) ∧ (s ≠ 0 → s ≠ 1 → s ≠ 6 → va = nI (sVal s))
def sOk (s : Nat) : Prop := s ≤ 22 ∧ s ≠ 12 ∧ s ≠ 13
theorem wsg_hit {T : Nat → Nat} {p e w : Nat} (hw : w < 9) (h : wIs T p e w) : wsg T p e = wSg w := by
  have no : ∀ v, v < 9 → v ≠ w → ¬ wIs T p e v := fun v hv hne z => hne (wIs_one hv hw z h)
  unfold wsg
  match w, hw, h, no with
  | 0, _, h, no => rw [if_pos h]; rfl
  | 1, _, h, no => rw [if_neg (no 0 (by omega) (by omega)), if_pos h]; rfl
  | 2, _, h, no => rw [if_neg (no 0 (by omega) (by omega)), if_neg (no 1 (by omega) (by omega)), if_pos h]; rfl
  | 3, _, h, no => rw [if_neg (no 0 (by omega) (by omega)), if_neg (no 1 (by omega) (by omega)), if_neg (no 2 (by omega) (by omega)), if_pos h]; rfl
  | 4, _, h, no => rw [if_neg (no 0 (by omega) (by omega)), if_neg (no 1 (by omega) (by omega)), if_neg (no 2 (by omega) (by omega)), if_neg (no 3 (by omega) (by omega)), if_pos h]; rfl
  | 5, _, h, no => rw [if_neg (no 0 (by omega) (by omega)), if_neg (no 1 (by omega) (by omega)), if_neg (no 2 (by omega) (by omega)), if_neg (no 3 (by omega) (by omega)), if_neg (no 4 (by omega) (by omega)), if_pos h]; rfl
  | 6, _, h, no => rw [if_neg (no 0 (by omega) (by omega)), if_neg (no 1 (by omega) (by omega)), if_neg (no 2 (by omega) (by omega)), if_neg (no 3 (by omega) (by omega)), if_neg (no 4 (by omega) (by omega)), if_neg (no 5 (by omega) (by omega)), if_pos h]; rfl
  | 7, _, h, no => rw [if_neg (no 0 (by omega) (by omega)), if_neg (no 1 (by omega) (by omega)), if_neg (no 2 (by omega) (by omega)), if_neg (no 3 (by omega) (by omega)), if_neg (no 4 (by omega) (by omega)), if_neg (no 5 (by omega) (by omega)), if_neg (no 6 (by omega) (by omega)), if_pos h]; rfl
  | 8, _, h, no => rw [if_neg (no 0 (by omega) (by omega)), if_neg (no 1 (by omega) (by omega)), if_neg (no 2 (by omega) (by omega)), if_neg (no 3 (by omega) (by omega)), if_neg (no 4 (by omega) (by omega)), if_neg (no 5 (by omega) (by omega)), if_neg (no 6 (by omega) (by omega)), if_neg (no 7 (by omega) (by omega)), if_pos h]; rfl
theorem wsg_no {T : Nat → Nat} {p e : Nat} (no : ∀ v, v < 9 → ¬ wIs T p e v) : wsg T p e = 1 := by
  unfold wsg
  rw [if_neg (no 0 (by omega)), if_neg (no 1 (by omega)), if_neg (no 2 (by omega)), if_neg (no 3 (by omega)), if_neg (no 4 (by omega)), if_neg (no 5 (by omega)), if_neg (no 6 (by omega)), if_neg (no 7 (by omega)), if_neg (no 8 (by omega))]
theorem w_back : ∀ w, w < 9 → ∃ k, k < 9 ∧ wCl k = w ∧ sVal (wSg w) = k ∧ sTk (wSg w) = 2 ∧ wSg w ≠ 0 ∧ wSg w ≠ 1 ∧ wSg w ≠ 6 ∧ wSg w ≤ 22 ∧ wSg w ≠ 12 ∧ wSg w ≠ 13 := by decide +kernel
theorem mk_back : ∀ c, c < 256 → mkS c ≤ 22 ∧ mkS c ≠ 12 ∧ mkS c ≠ 13 ∧ (mkS c ≠ 1 → sTk (mkS c) = 4 ∧ sVal (mkS c) = c) := by decide +kernel
theorem let_ne {c : Nat} (h : isLet c = true) : c ≠ 32 := by
  intro e
  subst e
  exact absurd h (by decide)
theorem tS_ok {T : Nat → Nat} {n : Nat} {r : Nat → Int32} (h : TxtIs r T n) {i : Nat} (hi : i ≤ n) : sOk (tS T n i) := by
  unfold tS
  by_cases c : n ≤ tP T n i
  · rw [if_pos c]; exact ⟨by omega, by omega, by omega⟩
  rw [if_neg c]
  by_cases c1 : isLet (T (tP T n i)) = true
  · rw [if_pos c1]
    by_cases c3 : ∃ w, w < 9 ∧ wIs T (tP T n i) (tE T n i) w
    · obtain ⟨w, hw, hi⟩ := c3
      rw [wsg_hit hw hi]
      obtain ⟨k, -, -, -, -, -, -, -, a, b, d⟩ := w_back w hw
      exact ⟨a, b, d⟩
    · rw [wsg_no (fun v hv z => c3 ⟨v, hv, z⟩)]; exact ⟨by omega, by omega, by omega⟩
  rw [if_neg c1]
  by_cases c2 : isDig (T (tP T n i)) = true
  · rw [if_pos c2]
    split
    · exact ⟨by omega, by omega, by omega⟩
    · exact ⟨by omega, by omega, by omega⟩
  · rw [if_neg c2]
    have := mk_back _ (h.2 (tP T n i) (by omega)).2
    exact ⟨this.1, this.2.1, this.2.2.1⟩
theorem next_s {r wd : Nat → Int32} {T : Nat → Nat} {n : Nat} (h : TxtIs r T n) (hW : WordsIs wd) {i : Nat} (hi : i ≤ n) (fr tk va : Int32) : ∃ tk' va', F_X12_next (nI i) fr (nI n) tk va r wd = some (nI (tE T n i), nI (tP T n i), tk', va') ∧ TR (tS T n i) (tV T n i) tk' va' := by
  have hn := h.1
  have hp := tP_le (T := T) hi
  have he := tE_le (T := T) hi
  unfold F_X12_next
  rw [skip12 h fr tk va (n - i) i FU (by omega) (by show n - i < 100000; omega), show scn isBlk T (n - i) i = tP T n i from rfl]
  unfold F_X12_next_39
  rw [raw_s h hp.2, Option.bind_some]
  by_cases c : n ≤ tP T n i
  · rw [if_neg (show ¬ tP T n i < n by omega), if_pos rfl, tS_0.mpr c]
    have e : tE T n i = tP T n i := by unfold tE; rw [if_pos c]
    rw [e]
    exact ⟨0, va, rfl, rfl, fun z => by omega, fun z => absurd rfl z⟩
  obtain ⟨hr, hc⟩ := h.2 (tP T n i) (by omega)
  have nm : ¬ nI (T (tP T n i)) = (-1 : Int32) := fun z => nI_pos (n := T (tP T n i)) (by omega) (by rw [z]; decide)
  rw [if_pos (show tP T n i < n by omega), if_neg nm, let12 _ hc, Option.bind_some, ite10, nI_1]
  by_cases c1 : isLet (T (tP T n i)) = true
  · rw [if_pos c1, word12 h _ _ _ (n - (tP T n i + 1)) (tP T n i + 1) FU (by omega) (by show _ < 100000; omega), ← scn_step (by omega) c1]
    have e : tE T n i = scn isLet T (n - tP T n i) (tP T n i) := by unfold tE; rw [if_neg c, if_pos c1]
    have es : tS T n i = wsg T (tP T n i) (tE T n i) := by unfold tS; rw [if_neg c, if_pos c1]
    rw [← e]
    unfold F_X12_next_123 F_X12_wordAt
    have h32 : ∀ j, tP T n i ≤ j → j < tE T n i → T j ≠ 32 := fun j a b => let_ne (scn_in isLet T _ _ j a (by rw [← e]; exact b))
    rw [show (0 : Int32) = nI (wSt 0) from rfl, wordAt_5 h hW he.1 he.2 h32 9 0 FU (-1) (by omega) (by decide) (by show 9 < 100000; omega), Option.bind_some, es]
    by_cases c3 : ∃ w, w < 9 ∧ wIs T (tP T n i) (tE T n i) w
    · obtain ⟨w, hw, hi⟩ := c3
      obtain ⟨k, k1, k2, k3, k4, k5, k6, k7, -⟩ := w_back w hw
      rw [wvF_hit 9 0 k (by omega) (by omega) k1 (k2.symm ▸ hi), wsg_hit hw hi, if_neg (fun z => nI_pos (n := k) (by omega) (by rw [z]; decide))]
      exact ⟨_, _, rfl, by rw [k4]; rfl, fun z => absurd z k7, fun _ _ _ => by rw [k3]⟩
    · rw [wvF_no 9 0 (by omega) (fun v hv z => c3 ⟨v, hv, z⟩), wsg_no (fun v hv z => c3 ⟨v, hv, z⟩), if_pos rfl]
      exact ⟨_, _, rfl, rfl, fun z => by omega, fun _ z => absurd rfl z⟩
  rw [if_neg c1, dig12 _ hc, Option.bind_some, ite10, mark12 _ hc, Option.bind_some]
  by_cases c2 : isDig (T (tP T n i)) = true
  · rw [if_pos c2]
    have hd := isDig_iff.mp c2
    have e : tE T n i = scn isDig T (n - tP T n i) (tP T n i) := by unfold tE; rw [if_neg c, if_neg c1, if_pos c2]
    have es : tS T n i = (if tE T n i - tP T n i ≤ 4 then 6 else 1) := by unfold tS; rw [if_neg c, if_neg c1, if_pos c2]
    rw [show (48 : Int32) = nI 48 from rfl, pk_sub hd.1]
    obtain ⟨v, h1, h2⟩ := num12 h (wd := wd) (p := tP T n i) 1 (n - (tP T n i + 1)) (tP T n i + 1) FU (T (tP T n i) - 48) (by omega) (by omega) (by show _ < 100000; omega) (by omega) (fun j a b => by rw [show j = tP T n i by omega]; exact c2) (fun _ => by
      rw [show tP T n i + 1 - tP T n i = 0 + 1 by omega, decN, decN]; omega)
    rw [← scn_step (by omega) c2, ← e] at h1 h2
    refine ⟨_, v, h1, ?_⟩
    rw [es]
    by_cases c3 : tE T n i - tP T n i ≤ 4
    · rw [if_pos c3, if_pos c3]
      exact ⟨rfl, fun _ => h2 c3, fun _ _ z => absurd rfl z⟩
    · rw [if_neg c3, if_neg c3]
      exact ⟨rfl, fun z => by omega, fun _ z => absurd rfl z⟩
  · rw [if_neg c2]
    have e : tE T n i = tP T n i + 1 := by unfold tE; rw [if_neg c, if_neg c1, if_neg c2]
    have es : tS T n i = mkS (T (tP T n i)) := by unfold tS; rw [if_neg c, if_neg c1, if_neg c2]
    rw [es, e]
    have hb := mk_back _ hc
    have hne := mkS_ne (T (tP T n i))
    by_cases c3 : mkS (T (tP T n i)) = 1
    · rw [if_pos c3, if_pos rfl, c3]
      exact ⟨_, _, rfl, rfl, fun z => by omega, fun _ z => absurd rfl z⟩
    · rw [if_neg c3, if_neg one_ne]
      obtain ⟨b1, b2⟩ := hb.2.2.2 c3
      exact ⟨_, _, rfl, by rw [b1]; rfl, fun z => absurd z hne.1, fun _ _ _ => by rw [b2]⟩
