/-! the class takes a token as the machine does -/
def fz (k : Nat) (fault : Int32) : Int32 := if k = 0 ∨ k = 4 then fault else nI k
def pz (k : Nat) (fp place : Int32) : Int32 := if k = 0 ∨ k = 4 then fp else place
section TAKE
variable {s st nm cm op pa nu : Nat} {W : List Nat} {L : List (Nat × Nat)} {code wa : Nat → Int32} {fault fp place num sti : Int32}
theorem unit_n (hs : s < 32) (hnu : nu < 16384) (hx : s = 6 ∨ s = 9 ∨ s = 10 → (num &&& 16383) = nI nu) (hl : s ≠ 0 → L.length < 400) (hc : CodeIs code L) :
    ∃ code', F_X5_takeUnit (nI L.length) fault fp (nI nm) num place (nI s) sti code = some (nI (sUnit s nm cm op pa nu W L).2.2.2.2.2.2.2.2.length, fz (sUnit s nm cm op pa nu W L).1 fault, pz (sUnit s nm cm op pa nu W L).1 fp place, nI (sUnit s nm cm op pa nu W L).2.2.1, nI (sUnit s nm cm op pa nu W L).2.1, code') ∧ CodeIs code' (sUnit s nm cm op pa nu W L).2.2.2.2.2.2.2.2 ∧ (sUnit s nm cm op pa nu W L).2.2.2.2.2.2.2.1 = W ∧ (sUnit s nm cm op pa nu W L).2.2.2.2.1 = op ∧ (sUnit s nm cm op pa nu W L).2.2.2.2.2.1 = pa ∧ (sUnit s nm cm op pa nu W L).2.2.2.1 = cm := by
  have e : ∀ j : Nat, j < 32 → ((nI s = nI j) ↔ s = j) := fun j hj => nI_eq (by omega) (by omega)
  unfold F_X5_takeUnit F_X5_takeUnit_18 F_X5_takeUnit_61 F_X5_stop
  rw [show (7 : Int32) = nI 7 from rfl, show (8 : Int32) = nI 8 from rfl, show (6 : Int32) = nI 6 from rfl, show (9 : Int32) = nI 9 from rfl, show (10 : Int32) = nI 10 from rfl]
  simp only [e 7 (by omega), e 8 (by omega), e 6 (by omega), e 9 (by omega), e 10 (by omega), Option.bind_some]
  by_cases c : s = 7 ∨ s = 8
  · have hR : sUnit s nm cm op pa nu W L = (0, 3, s, cm, op, pa, nu, W, L) := by unfold sUnit; rw [if_pos c]
    rw [hR]
    refine ⟨code, ?_, hc, rfl, rfl, rfl, rfl⟩
    rcases c with c | c
    · rw [if_pos c]; rfl
    · rw [if_neg (show ¬ s = 7 by omega), if_pos c]; rfl
  · rw [if_neg (show ¬ s = 7 by omega), if_neg (show ¬ s = 8 by omega)]
    by_cases d : s = 6 ∨ s = 9 ∨ s = 10
    · have hR : sUnit s nm cm op pa nu W L = (0, 4, nm, cm, op, pa, nu, W, L ++ [(s, nu)]) := by unfold sUnit; rw [if_neg c, if_pos d]
      rw [hR]
      refine ⟨_, ?_, hc.snoc s nu, rfl, rfl, rfl, rfl⟩
      rw [emit_n hs hnu (hx d) (hl (by omega))]
      rcases d with d | d | d
      · rw [if_pos d]; rfl
      · rw [if_neg (show ¬ s = 6 by omega), if_pos d]; rfl
      · rw [if_neg (show ¬ s = 6 by omega), if_neg (show ¬ s = 9 by omega), if_pos d]; rfl
    · have hR : sUnit s nm cm op pa nu W L = (1, 8, nm, cm, op, pa, nu, W, L) := by unfold sUnit; rw [if_neg c, if_neg d]
      rw [hR, if_neg (show ¬ s = 6 by omega), if_neg (show ¬ s = 9 by omega), if_neg (show ¬ s = 10 by omega)]
      exact ⟨code, rfl, hc, rfl, rfl, rfl, rfl⟩
theorem owner_n (hs : s < 32) (hnm : nm < 32) (hnu : nu < 16384) (hx : s = 6 ∨ s = 9 ∨ s = 10 → (num &&& 16383) = nI nu) (hv : s = 6 → num = nI nu) (hl : s ≠ 0 → L.length < 400) (hc : CodeIs code L) :
    ∃ code', F_X5_takeOwner (nI L.length) fault fp (nI nm) num place (nI s) sti code = some (nI (sOwner s nm cm op pa nu W L).2.2.2.2.2.2.2.2.length, fz (sOwner s nm cm op pa nu W L).1 fault, pz (sOwner s nm cm op pa nu W L).1 fp place, nI (sOwner s nm cm op pa nu W L).2.1, code') ∧ CodeIs code' (sOwner s nm cm op pa nu W L).2.2.2.2.2.2.2.2 ∧ (sOwner s nm cm op pa nu W L).2.2.2.2.2.2.2.1 = W ∧ (sOwner s nm cm op pa nu W L).2.2.2.2.1 = op ∧ (sOwner s nm cm op pa nu W L).2.2.2.2.2.1 = pa ∧ (sOwner s nm cm op pa nu W L).2.2.2.1 = cm ∧ (sOwner s nm cm op pa nu W L).2.2.1 = nm := by
  have e : ∀ j : Nat, j < 32 → ((nI s = nI j) ↔ s = j) := fun j hj => nI_eq (by omega) (by omega)
  have e2 : ∀ j : Nat, j < 32 → ((nI nm = nI j) ↔ nm = j) := fun j hj => nI_eq (by omega) (by omega)
  by_cases c : s = 6
  · have hn := hv c
    subst hn
    have hx := hx (Or.inl c)
    have hl := hl (by omega)
    unfold F_X5_takeOwner F_X5_takeOwner_14 F_X5_takeOwner_47 F_X5_takeOwner_97 F_X5_stop
    rw [show (11 : Int32) = nI 11 from rfl, show (6 : Int32) = nI 6 from rfl, show (10 : Int32) = nI 10 from rfl, show (7 : Int32) = nI 7 from rfl, show (12 : Int32) = nI 12 from rfl, show (13 : Int32) = nI 13 from rfl, emit_n (show 11 < 32 by omega) hnu hx hl, emit_n (show 12 < 32 by omega) hnu hx hl, emit_n (show 13 < 32 by omega) hnu hx hl]
    simp only [e 6 (by omega), e2 11 (by omega), e2 7 (by omega), Option.bind_some, if_pos c, if_neg one_ne, if_true, nI_ltI (show nu < 2 ^ 31 by omega) (show 10 < 2 ^ 31 by omega), nI_ltI (show nu < 2 ^ 31 by omega) (show 6 < 2 ^ 31 by omega)]
    by_cases d : nm = 11
    · rw [if_pos d]
      by_cases b : nu < 10
      · have hR : sOwner s nm cm op pa nu W L = (0, 5, nm, cm, op, pa, nu, W, L ++ [(11, nu)]) := by unfold sOwner; rw [if_pos c, if_pos d, if_pos b]
        rw [hR, if_pos b]
        exact ⟨_, rfl, hc.snoc 11 nu, rfl, rfl, rfl, rfl, rfl⟩
      · have hR : sOwner s nm cm op pa nu W L = (2, 8, nm, cm, op, pa, nu, W, L) := by unfold sOwner; rw [if_pos c, if_pos d, if_neg b]
        rw [hR, if_neg b]
        exact ⟨code, rfl, hc, rfl, rfl, rfl, rfl, rfl⟩
    · rw [if_neg d]
      by_cases b : nu < 6
      · rw [if_pos b]
        by_cases g : nm = 7
        · have hR : sOwner s nm cm op pa nu W L = (0, 4, nm, cm, op, pa, nu, W, L ++ [(12, nu)]) := by unfold sOwner; rw [if_pos c, if_neg d, if_pos b, if_pos g]
          rw [hR, if_pos g]
          exact ⟨_, rfl, hc.snoc 12 nu, rfl, rfl, rfl, rfl, rfl⟩
        · have hR : sOwner s nm cm op pa nu W L = (0, 4, nm, cm, op, pa, nu, W, L ++ [(13, nu)]) := by unfold sOwner; rw [if_pos c, if_neg d, if_pos b, if_neg g]
          rw [hR, if_neg g]
          exact ⟨_, rfl, hc.snoc 13 nu, rfl, rfl, rfl, rfl, rfl⟩
      · have hR : sOwner s nm cm op pa nu W L = (2, 8, nm, cm, op, pa, nu, W, L) := by unfold sOwner; rw [if_pos c, if_neg d, if_neg b]
        rw [hR, if_neg b]
        exact ⟨code, rfl, hc, rfl, rfl, rfl, rfl, rfl⟩
  · have hR : sOwner s nm cm op pa nu W L = (1, 8, nm, cm, op, pa, nu, W, L) := by unfold sOwner; rw [if_neg c]
    unfold F_X5_takeOwner F_X5_takeOwner_14 F_X5_stop
    rw [show (6 : Int32) = nI 6 from rfl, show (11 : Int32) = nI 11 from rfl]
    simp only [e 6 (by omega), if_neg c, Option.bind_some]
    rw [hR]
    refine ⟨code, ?_, hc, rfl, rfl, rfl, rfl, rfl⟩
    split <;> rfl
theorem opening_n (hs : s < 32) (c : s = 14 ∨ s = 3) (hop : op ≤ 8) (hW : W.length < 40) (hr : onRow wa (W.map nI)) :
    ∃ wa', F_X5_takeOpening fault fp (nI op) (nI pa) place (nI s) sti (nI W.length) wa = some (fz (sClause s nm cm op pa nu W L).1 fault, pz (sClause s nm cm op pa nu W L).1 fp place, nI (sClause s nm cm op pa nu W L).2.2.2.2.1, nI (sClause s nm cm op pa nu W L).2.2.2.2.2.1, nI (sClause s nm cm op pa nu W L).2.1, nI (sClause s nm cm op pa nu W L).2.2.2.2.2.2.2.1.length, wa') ∧ onRow wa' ((sClause s nm cm op pa nu W L).2.2.2.2.2.2.2.1.map nI) ∧ (sClause s nm cm op pa nu W L).2.2.2.2.2.2.2.2 = L ∧ (sClause s nm cm op pa nu W L).2.2.2.1 = cm ∧ (sClause s nm cm op pa nu W L).2.2.1 = nm := by
  have e : ∀ j : Nat, j < 32 → ((nI s = nI j) ↔ s = j) := fun j hj => nI_eq (by omega) (by omega)
  unfold F_X5_takeOpening F_X5_takeOpening_43 F_X5_stop
  by_cases b : op < 8
  · obtain ⟨wa', h1, h2⟩ := push_n (s := s) hW hr
    rw [if_pos (show nI op < (8 : Int32) from nI_lt (b := 8) b (by omega)), h1, show (3 : Int32) = nI 3 from rfl]
    simp only [e 3 (by omega), Option.bind_some, nI_1]
    have hR : sClause s nm cm op pa nu W L = (0, 0, nm, cm, op + 1, (if s = 3 then pa + 1 else pa), nu, s :: W, L) := by unfold sClause; rw [if_pos c, if_pos b]
    rw [hR]
    refine ⟨wa', ?_, h2, rfl, rfl, rfl⟩
    by_cases g : s = 3
    · rw [if_pos g]; show _ = some (_, _, _, nI (if s = 3 then pa + 1 else pa), _, _, _); rw [if_pos g]; rfl
    · rw [if_neg g]; show _ = some (_, _, _, nI (if s = 3 then pa + 1 else pa), _, _, _); rw [if_neg g]; rfl
  · rw [if_neg (show ¬ nI op < (8 : Int32) from nI_nlt (b := 8) (by omega) (by omega)), Option.bind_some]
    have hR : sClause s nm cm op pa nu W L = (3, 8, nm, cm, op, pa, nu, W, L) := by unfold sClause; rw [if_pos c, if_neg b]
    rw [hR]
    exact ⟨wa, rfl, hr, rfl, rfl, rfl⟩
/-- what the class answers to a token, the machine's R before the eyes -/
def Takes (R : Nat × PS) (fault fp place : Int32) (x : Option (Int32 × Int32 × Int32 × Int32 × Int32 × Int32 × Int32 × Int32 × Int32 × (Nat → Int32) × (Nat → Int32))) : Prop :=
  ∃ code' wa', x = some (nI R.2.2.2.2.2.2.2.2.length, nI R.2.2.2.1, fz R.1 fault, pz R.1 fp place, nI R.2.2.1, nI R.2.2.2.2.1, nI R.2.2.2.2.2.1, nI R.2.1, nI R.2.2.2.2.2.2.2.1.length, code', wa') ∧ CodeIs code' R.2.2.2.2.2.2.2.2 ∧ onRow wa' (R.2.2.2.2.2.2.2.1.map nI)
theorem clause_n (hs : s < 32) (hnu : nu < 16384) (hx : s = 6 ∨ s = 9 ∨ s = 10 → (num &&& 16383) = nI nu) (hl : s ≠ 0 → L.length < 400) (hop : op ≤ 8) (hW : W.length < 40) (hc : CodeIs code L) (hr : onRow wa (W.map nI)) :
    Takes (sClause s nm cm op pa nu W L) fault fp place (F_X5_takeClause (nI L.length) (nI cm) fault fp (nI nm) num (nI op) (nI pa) place (nI s) sti (nI W.length) code wa) := by
  have e : ∀ j : Nat, j < 32 → ((nI s = nI j) ↔ s = j) := fun j hj => nI_eq (by omega) (by omega)
  unfold F_X5_takeClause Takes
  by_cases c : s = 14 ∨ s = 3
  · obtain ⟨wa', h1, h2, h3, h4, h5⟩ := opening_n (s := s) (nm := nm) (cm := cm) (nu := nu) (pa := pa) (L := L) (fault := fault) (fp := fp) (place := place) (sti := sti) hs c hop hW hr
    rw [h1, Option.bind_some, h3, h4, h5, show (14 : Int32) = nI 14 from rfl, show (3 : Int32) = nI 3 from rfl]
    simp only [e 14 (by omega), e 3 (by omega)]
    refine ⟨code, wa', ?_, hc, h2⟩
    rcases c with c | c
    · rw [if_pos c]
    · rw [if_neg (show ¬ s = 14 by omega), if_pos c]
  · rw [if_neg (show ¬ nI s = (14 : Int32) from fun z => c (Or.inl ((e 14 (by omega)).mp z))), if_neg (show ¬ nI s = (3 : Int32) from fun z => c (Or.inr ((e 3 (by omega)).mp z)))]
    by_cases d : s = 11
    · have hR : sClause s nm cm op pa nu W L = (0, 2, 11, cm, op, pa, nu, W, L) := by unfold sClause; rw [if_neg c, if_pos d]
      rw [hR, if_pos (show nI s = (11 : Int32) by rw [d]; rfl)]
      exact ⟨code, wa, rfl, hc, hr⟩
    · have hR : sClause s nm cm op pa nu W L = sUnit s nm 0 op pa nu W L := by unfold sClause; rw [if_neg c, if_neg d]
      obtain ⟨code', h1, h2, h3, h4, h5, h6⟩ := unit_n (s := s) (nm := nm) (cm := 0) (nu := nu) (op := op) (pa := pa) (W := W) (fault := fault) (fp := fp) (place := place) (sti := sti) hs hnu hx hl hc
      rw [if_neg (show ¬ nI s = (11 : Int32) from fun z => d ((e 11 (by omega)).mp z)), hR, h1, Option.bind_some, h3, h4, h5, h6]
      exact ⟨code', wa, rfl, h2, hr⟩
theorem cnt3_le : ∀ (W : List Nat), cnt3 W ≤ opens W
  | [] => Nat.le_refl _
  | x :: W => by
    have := cnt3_le W
    rw [cnt3, opens]
    by_cases c : x = 3
    · rw [if_pos c, if_pos (Or.inl c)]; omega
    · rw [if_neg c]; omega
theorem rel_n {k : Nat} (hk : k ≤ 6) (hk1 : 1 ≤ k) (h : lvOk W) (ho : opens W = op) (hop : op ≤ 8) (hl : W.length + L.length ≤ 400) (hc : CodeIs code L) (hr : onRow wa (W.map nI)) :
    ∃ code', F_X5_release (nI k) (nI L.length) (nI op) (nI W.length) code wa = some (nI (rel k W op L).2.2.length, nI (rel k W op L).2.1, nI (rel k W op L).1.length, code') ∧ CodeIs code' (rel k W op L).2.2 ∧ onRow wa ((rel k W op L).1.map nI) ∧ (rel k W op L).1.length < 40 := by
  have h29 := lvOk_29 h (by omega)
  obtain ⟨a, b, c, -⟩ := rel_facts hk1 W op L h ho
  have h30 := lvOk_29 a (by omega)
  obtain ⟨code', r1, r2, r3⟩ := release_n hk hk1 W op L code 0 FU h ho hl (by omega) (by show _ < 100000; omega) (by omega) hr hc
  exact ⟨code', r1, r2, r3, by omega⟩
theorem bu_n (hs : s < 32) (h : lvOk W) (ho : opens W = op) (hop : op ≤ 8) (hl : W.length + L.length ≤ 400) (hc : CodeIs code L) (hr : onRow wa (W.map nI)) :
    ∃ code' wa', F_X5_takeBehindUnit (nI L.length) (nI cm) fault fp (nI op) place (nI s) sti (nI W.length) code wa = some (nI (sBU s nm cm op pa nu W L).2.2.2.2.2.2.2.2.length, nI (sBU s nm cm op pa nu W L).2.2.2.1, fz (sBU s nm cm op pa nu W L).1 fault, pz (sBU s nm cm op pa nu W L).1 fp place, nI (sBU s nm cm op pa nu W L).2.2.2.2.1, nI (sBU s nm cm op pa nu W L).2.1, nI (sBU s nm cm op pa nu W L).2.2.2.2.2.2.2.1.length, code', wa') ∧ CodeIs code' (sBU s nm cm op pa nu W L).2.2.2.2.2.2.2.2 ∧ onRow wa' ((sBU s nm cm op pa nu W L).2.2.2.2.2.2.2.1.map nI) ∧ (sBU s nm cm op pa nu W L).2.2.2.2.2.1 = pa ∧ (sBU s nm cm op pa nu W L).2.2.1 = nm := by
  unfold F_X5_takeBehindUnit F_X5_stop
  rw [sum_n s hs, Option.bind_some, ite10, cmp_n s hs, Option.bind_some, ite10, rank_n s hs, Option.bind_some, Option.bind_some]
  by_cases c : dSm s ∨ dCp s
  · have hk1 : 1 ≤ rk s := by
      have : ∀ s, s < 32 → (dSm s ∨ dCp s) → 1 ≤ rk s := by decide +kernel
      exact this s hs c
    obtain ⟨code', h1, h2, h3, h4⟩ := rel_n (rk_le s) hk1 h ho hop hl hc hr
    obtain ⟨wa', h5, h6⟩ := push_n (s := s) h4 h3
    by_cases d : dSm s
    · have hR : sBU s nm cm op pa nu W L = (0, pushS s 1 nm cm op pa nu W L) := by unfold sBU; rw [if_pos d]
      rw [if_pos d, hR, h1, Option.bind_some, h5, Option.bind_some]
      exact ⟨code', wa', rfl, h2, h6, rfl, rfl⟩
    · have d2 : dCp s := c.resolve_left d
      have hR : sBU s nm cm op pa nu W L = (0, pushS s 1 nm 1 op pa nu W L) := by unfold sBU; rw [if_neg d, if_pos d2]
      rw [if_neg d, if_pos d2, hR, h1, Option.bind_some, h5, Option.bind_some]
      exact ⟨code', wa', rfl, h2, h6, rfl, rfl⟩
  · have d : ¬ dSm s := fun z => c (Or.inl z)
    have d2 : ¬ dCp s := fun z => c (Or.inr z)
    have hR : sBU s nm cm op pa nu W L = (1, 8, nm, cm, op, pa, nu, W, L) := by unfold sBU; rw [if_neg d, if_neg d2]
    rw [if_neg d, if_neg d2, hR]
    exact ⟨code, wa, rfl, hc, hr, rfl, rfl⟩
theorem bc_n (hs : s < 32) (h : lvOk W) (ho : opens W = op) (hop : op ≤ 8) (h3 : cnt3 W = pa) (hl : W.length + L.length ≤ 400) (hc : CodeIs code L) (hr : onRow wa (W.map nI)) :
    ∃ code' wa', F_X5_takeBehindClause (nI L.length) fault fp (nI op) (nI pa) place (nI s) sti (nI W.length) code wa = some (nI (sBC s nm cm op pa nu W L).2.2.2.2.2.2.2.2.length, fz (sBC s nm cm op pa nu W L).1 fault, pz (sBC s nm cm op pa nu W L).1 fp place, nI (sBC s nm cm op pa nu W L).2.2.2.2.1, nI (sBC s nm cm op pa nu W L).2.2.2.2.2.1, nI (sBC s nm cm op pa nu W L).2.1, nI (sBC s nm cm op pa nu W L).2.2.2.2.2.2.2.1.length, code', wa') ∧ CodeIs code' (sBC s nm cm op pa nu W L).2.2.2.2.2.2.2.2 ∧ onRow wa' ((sBC s nm cm op pa nu W L).2.2.2.2.2.2.2.1.map nI) ∧ (sBC s nm cm op pa nu W L).2.2.2.1 = cm ∧ (sBC s nm cm op pa nu W L).2.2.1 = nm := by
  have e : ∀ j : Nat, j < 32 → ((nI s = nI j) ↔ s = j) := fun j hj => nI_eq (by omega) (by omega)
  have hpa : pa ≤ 8 := by have := cnt3_le W; omega
  unfold F_X5_takeBehindClause F_X5_takeBehindClause_18
  by_cases c : s = 21 ∨ s = 22
  · have hR : sBC s nm cm op pa nu W L = (0, pushS s 0 nm cm op pa nu W L) := by unfold sBC; rw [if_pos c]
    have hk1 : 1 ≤ rk s := by rcases c with c | c <;> subst c <;> decide
    obtain ⟨code', h1, h2, h4, h5⟩ := rel_n (rk_le s) hk1 h ho hop hl hc hr
    obtain ⟨wa', h6, h7⟩ := push_n (s := s) h5 h4
    rw [hR, rank_n s hs, Option.bind_some, h1, Option.bind_some, h6, Option.bind_some]
    refine ⟨code', wa', ?_, h2, h7, rfl, rfl⟩
    rcases c with c | c
    · rw [if_pos (show nI s = (21 : Int32) by rw [c]; rfl)]; rfl
    · rw [if_neg (show ¬ nI s = (21 : Int32) from fun z => by have := (e 21 (by omega)).mp z; omega), if_pos (show nI s = (22 : Int32) by rw [c]; rfl)]; rfl
  rw [if_neg (show ¬ nI s = (21 : Int32) from fun z => c (Or.inl ((e 21 (by omega)).mp z))), if_neg (show ¬ nI s = (22 : Int32) from fun z => c (Or.inr ((e 22 (by omega)).mp z)))]
  obtain ⟨code', h1, h2, h4, h5⟩ := rel_n (k := 1) (by omega) (by omega) h ho hop hl hc hr
  obtain ⟨f1, f2, f3, f4, f5, f6⟩ := rel_facts (k := 1) (by omega) W op L h ho
  by_cases d : s = 4 ∧ 0 < pa
  · have hR : sBC s nm cm op pa nu W L = (0, 5, nm, cm, (rel 1 W op L).2.1 - 1, pa - 1, nu, (rel 1 W op L).1.tail, (rel 1 W op L).2.2) := by unfold sBC; rw [if_neg c, if_pos d]
    rw [hR, if_pos (show nI s = (4 : Int32) by rw [d.1]; rfl), if_neg (show ¬ nI pa ≤ 0 from nI_nle d.2 (by omega)), show (1 : Int32) = nI 1 from rfl, h1, Option.bind_some]
    have c3 := cnt3_le (rel 1 W op L).1
    generalize rel 1 W op L = Z at *
    obtain ⟨W', op', L'⟩ := Z
    dsimp only at *
    cases W' with
    | nil => exfalso; rw [cnt3] at f4; omega
    | cons x W' =>
      rw [pk_sub (show 1 ≤ op' by omega), pk_sub (show 1 ≤ pa by omega), pk_sub (show 1 ≤ (x :: W').length by rw [List.length_cons]; omega), List.length_cons, Nat.add_sub_cancel, List.tail_cons]
      rw [List.map_cons] at h4
      exact ⟨code', wa, rfl, h2, h4.2, rfl, rfl⟩
  · have g1 : ∀ X Y : Option (Int32 × Int32 × Int32 × Int32 × Int32 × Int32 × Int32 × (Nat → Int32) × (Nat → Int32)), (if nI s = (4 : Int32) then (if nI pa ≤ 0 then X else Y) else X) = X := by
      intro X Y
      by_cases g : s = 4
      · rw [if_pos (show nI s = (4 : Int32) by rw [g]; rfl), if_pos (show nI pa ≤ (0 : Int32) by
          have : pa = 0 := by omega
          rw [this]; decide)]
      · rw [if_neg (show ¬ nI s = (4 : Int32) from fun z => g ((e 4 (by omega)).mp z))]
    rw [g1]
    unfold F_X5_takeBehindClause_99 F_X5_stop
    by_cases g : s = 2 ∧ pa = 0
    · have hR : sBC s nm cm op pa nu W L = (0, 6, nm, cm, (rel 1 W op L).2.1, pa, nu, (rel 1 W op L).1, (rel 1 W op L).2.2) := by unfold sBC; rw [if_neg c, if_neg d, if_pos g]
      rw [hR, if_pos (show nI s = (2 : Int32) by rw [g.1]; rfl), if_pos (show nI pa = 0 by rw [g.2]; rfl), show (1 : Int32) = nI 1 from rfl, h1, Option.bind_some]
      exact ⟨code', wa, rfl, h2, h4, rfl, rfl⟩
    · have hR : sBC s nm cm op pa nu W L = (1, 8, nm, cm, op, pa, nu, W, L) := by unfold sBC; rw [if_neg c, if_neg d, if_neg g]
      rw [hR]
      refine ⟨code, wa, ?_, hc, hr, rfl, rfl⟩
      by_cases g2 : s = 2
      · rw [if_pos (show nI s = (2 : Int32) by rw [g2]; rfl), if_neg (show ¬ nI pa = 0 from nI_ne0 (by omega) (by omega))]
        rfl
      · rw [if_neg (show ¬ nI s = (2 : Int32) from fun z => g2 ((e 2 (by omega)).mp z))]
        rfl
theorem act_n (hs : s < 32) (hst : st ≤ 6 ∨ (st = 8 ∧ s = 0)) (hnm : nm < 32) (hnu : nu < 16384) (hx : s = 6 ∨ s = 9 ∨ s = 10 → (num &&& 16383) = nI nu) (hv : s = 6 → num = nI nu) (hl0 : s ≠ 0 → L.length < 400) (h : lvOk W) (ho : opens W = op) (hop : op ≤ 8) (h3 : cnt3 W = pa) (hl : W.length + L.length ≤ 400) (hc : CodeIs code L) (hr : onRow wa (W.map nI)) :
    Takes (sAct s st nm cm op pa nu W L) fault fp place (F_X5_takeToken_86 num place (nI s) (nI L.length) (nI cm) fault fp (nI nm) (nI op) (nI pa) (nI st) (nI W.length) code wa) := by
  have h29 := lvOk_29 h (by omega)
  have e : ∀ j : Nat, j < 32 → ((nI st = nI j) ↔ st = j) := fun j hj => nI_eq (by omega) (by omega)
  have e0 : (nI s = 0) ↔ s = 0 := nI_eq (b := 0) (by omega) (by omega)
  unfold F_X5_takeToken_86
  by_cases c0 : st = 0
  · subst c0
    obtain ⟨code', wa', q1, q2, q3⟩ := clause_n (s := s) (nm := nm) (cm := cm) (nu := nu) (op := op) (pa := pa) (W := W) (L := L) (fault := fault) (fp := fp) (place := place) (sti := nI 0) hs hnu hx hl0 hop (by omega) hc hr
    rw [if_pos (show nI 0 = (0 : Int32) from rfl), q1, Option.bind_some]
    have hR : sAct s 0 nm cm op pa nu W L = sClause s nm cm op pa nu W L := by unfold sAct; rw [if_pos rfl]
    rw [hR]
    exact ⟨code', wa', rfl, q2, q3⟩
  rw [if_neg (show ¬ nI st = (0 : Int32) from fun z => c0 ((e 0 (by omega)).mp z))]
  by_cases c1 : st = 1
  · subst c1
    obtain ⟨code', q1, q2, q3, q4, q5, q6⟩ := unit_n (s := s) (nm := nm) (cm := cm) (nu := nu) (op := op) (pa := pa) (W := W) (L := L) (fault := fault) (fp := fp) (place := place) (sti := nI 1) hs hnu hx hl0 hc
    have hR : sAct s 1 nm cm op pa nu W L = sUnit s nm cm op pa nu W L := by unfold sAct; rw [if_neg (by omega), if_pos rfl]
    unfold Takes
    rw [if_pos (show nI 1 = (1 : Int32) from rfl), q1, Option.bind_some, hR, q3, q4, q5, q6]
    exact ⟨code', wa, rfl, q2, hr⟩
  rw [if_neg (show ¬ nI st = (1 : Int32) from fun z => c1 ((e 1 (by omega)).mp z))]
  by_cases c2 : st = 2
  · subst c2
    obtain ⟨code', q1, q2, q3, q4, q5, q6, q7⟩ := owner_n (s := s) (nm := nm) (cm := cm) (nu := nu) (op := op) (pa := pa) (W := W) (L := L) (fault := fault) (fp := fp) (place := place) (sti := nI 2) hs hnm hnu hx hv hl0 hc
    have hR : sAct s 2 nm cm op pa nu W L = sOwner s nm cm op pa nu W L := by unfold sAct; rw [if_neg (by omega), if_neg (by omega), if_pos rfl]
    unfold Takes
    rw [if_pos (show nI 2 = (2 : Int32) from rfl), q1, Option.bind_some, hR, q3, q4, q5, q6, q7]
    exact ⟨code', wa, rfl, q2, hr⟩
  rw [if_neg (show ¬ nI st = (2 : Int32) from fun z => c2 ((e 2 (by omega)).mp z))]
  by_cases c3 : st = 3
  · subst c3
    have hR : sAct s 3 nm cm op pa nu W L = (0, 2, nm, cm, op, pa, nu, W, L) := by unfold sAct; rw [if_neg (by omega), if_neg (by omega), if_neg (by omega), if_pos rfl]
    rw [if_pos (show nI 3 = (3 : Int32) from rfl), hR]
    exact ⟨code, wa, rfl, hc, hr⟩
  rw [if_neg (show ¬ nI st = (3 : Int32) from fun z => c3 ((e 3 (by omega)).mp z))]
  by_cases c4 : st = 4
  · subst c4
    obtain ⟨code', wa', q1, q2, q3, q4, q5⟩ := bu_n (s := s) (nm := nm) (cm := cm) (nu := nu) (pa := pa) (fault := fault) (fp := fp) (place := place) (sti := nI 4) hs h ho hop hl hc hr
    have hR : sAct s 4 nm cm op pa nu W L = sBU s nm cm op pa nu W L := by unfold sAct; rw [if_neg (by omega), if_neg (by omega), if_neg (by omega), if_neg (by omega), if_pos rfl]
    unfold Takes
    rw [if_pos (show nI 4 = (4 : Int32) from rfl), q1, Option.bind_some, hR, q4, q5]
    exact ⟨code', wa', rfl, q2, q3⟩
  rw [if_neg (show ¬ nI st = (4 : Int32) from fun z => c4 ((e 4 (by omega)).mp z))]
  by_cases c5 : st = 5
  · subst c5
    obtain ⟨code', wa', q1, q2, q3, q4, q5⟩ := bc_n (s := s) (nm := nm) (cm := cm) (nu := nu) (fault := fault) (fp := fp) (place := place) (sti := nI 5) hs h ho hop h3 hl hc hr
    have hR : sAct s 5 nm cm op pa nu W L = sBC s nm cm op pa nu W L := by unfold sAct; rw [if_neg (by omega), if_neg (by omega), if_neg (by omega), if_neg (by omega), if_neg (by omega), if_pos rfl]
    unfold Takes
    rw [if_pos (show nI 5 = (5 : Int32) from rfl), q1, Option.bind_some, hR, q4, q5]
    exact ⟨code', wa', rfl, q2, q3⟩
  rw [if_neg (show ¬ nI st = (5 : Int32) from fun z => c5 ((e 5 (by omega)).mp z))]
  by_cases c6 : st = 6
  · subst c6
    rw [if_pos (show nI 6 = (6 : Int32) from rfl)]
    unfold F_X5_takeLast F_X5_stop
    by_cases d : s = 0
    · have hR : sAct s 6 nm cm op pa nu W L = (4, 8, nm, cm, op, pa, nu, W, L) := by unfold sAct; rw [if_neg (by omega), if_neg (by omega), if_neg (by omega), if_neg (by omega), if_neg (by omega), if_neg (by omega), if_pos rfl, if_pos d]
      rw [if_pos (e0.mpr d), hR]
      exact ⟨code, wa, rfl, hc, hr⟩
    · have hR : sAct s 6 nm cm op pa nu W L = (1, 8, nm, cm, op, pa, nu, W, L) := by unfold sAct; rw [if_neg (by omega), if_neg (by omega), if_neg (by omega), if_neg (by omega), if_neg (by omega), if_neg (by omega), if_pos rfl, if_neg d]
      rw [if_neg (fun z => d (e0.mp z)), hR]
      exact ⟨code, wa, rfl, hc, hr⟩
  have c8 : st = 8 ∧ s = 0 := by omega
  obtain ⟨c8, d⟩ := c8
  subst c8
  rw [if_neg (show ¬ nI 8 = (6 : Int32) by decide)]
  have hR : sAct s 8 nm cm op pa nu W L = (4, 8, nm, cm, op, pa, nu, W, L) := by unfold sAct; rw [if_neg (by omega), if_neg (by omega), if_neg (by omega), if_neg (by omega), if_neg (by omega), if_neg (by omega), if_neg (by omega), if_pos d]
  rw [hR]
  exact ⟨code, wa, rfl, hc, hr⟩
end TAKE
