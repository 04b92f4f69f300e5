/-! the class reads as the machine does -/
/-- what holds of the machine's state -/
def Iv (S : PS) (b : Nat) : Prop := lvOk S.2.2.2.2.2.2.1 ∧ opens S.2.2.2.2.2.2.1 = S.2.2.2.1 ∧ S.2.2.2.1 ≤ 8 ∧ cnt3 S.2.2.2.2.2.2.1 = S.2.2.2.2.1 ∧ (S.1 = 0 ∨ S.1 = 7 → rk (S.2.2.2.2.2.2.1.headD 0) ≤ 3) ∧ S.2.2.2.2.2.2.1.length + S.2.2.2.2.2.2.2.length + (if S.1 = 3 then 1 else 0) ≤ b ∧ S.2.2.2.2.2.1 < 16384 ∧ S.2.1 < 32 ∧ S.2.2.1 ≤ 1 ∧ S.1 ≤ 7
section CLS
variable {s st nm cm op pa nu b : Nat} {W : List Nat} {L : List (Nat × Nat)} {code wa : Nat → Int32} {fault fp place num : Int32}
theorem act4_n (hs : s < 32) (hst : st ≤ 6 ∨ (st = 8 ∧ s = 0)) (hcm : cm ≤ 1) (hnm : nm < 32) (hnu : nu < 16384) (hx : s = 6 ∨ s = 9 ∨ s = 10 → (num &&& 16383) = nI nu) (hv : s = 6 → num = nI nu) (hl0 : s ≠ 0 → L.length < 400) (h : lvOk W) (ho : opens W = op) (hop : op ≤ 8) (h3 : cnt3 W = pa) (hl : W.length + L.length ≤ 400) (hc : CodeIs code L) (hr : onRow wa (W.map nI)) :
    Takes (sAct4 s st nm cm op pa nu W L) fault fp place (F_X5_takeToken_56 num place (nI s) (nI L.length) (nI cm) fault fp (nI nm) (nI op) (nI pa) (nI st) (nI W.length) code wa) := by
  unfold sAct4 F_X5_takeToken_56
  rw [sum_n s hs, Option.bind_some, ite10]
  by_cases c4 : st = 4
  · rw [if_pos (show nI st = (4 : Int32) by rw [c4]; rfl)]
    by_cases c : cm = 0
    · rw [if_pos (show nI cm = 0 by rw [c]; rfl), if_neg (fun z => z.2.1 c)]
      exact act_n hs hst hnm hnu hx hv hl0 h ho hop h3 hl hc hr
    · rw [if_neg (show ¬ nI cm = 0 from nI_ne0 (by omega) (by omega))]
      by_cases d : dSm s
      · rw [if_pos d, if_neg (fun z => z.2.2 d)]
        exact act_n hs hst hnm hnu hx hv hl0 h ho hop h3 hl hc hr
      · rw [if_neg d, if_pos ⟨c4, c, d⟩, show (5 : Int32) = nI 5 from rfl]
        exact act_n hs (by omega) hnm hnu hx hv hl0 h ho hop h3 hl hc hr
  · rw [if_neg (show ¬ nI st = (4 : Int32) from fun z => c4 ((nI_eq (show st < 2 ^ 31 by omega) (show 4 < 2 ^ 31 by omega)).mp z)), if_neg (fun z => c4 z.1)]
    exact act_n hs hst hnm hnu hx hv hl0 h ho hop h3 hl hc hr
theorem act26_n (hs : s < 32) (hst : st ≤ 6 ∨ (st = 8 ∧ s = 0)) (hcm : cm ≤ 1) (hnm : nm < 32) (hnu : nu < 16384) (hx : s = 6 ∨ s = 9 ∨ s = 10 → (num &&& 16383) = nI nu) (hv : s = 6 → num = nI nu) (hb : W.length + L.length + (if st = 3 then 1 else 0) ≤ b) (hb4 : b ≤ 400) (hb0 : s ≠ 0 → b < 400) (h : lvOk W) (ho : opens W = op) (hop : op ≤ 8) (h3 : cnt3 W = pa) (hc : CodeIs code L) (hr : onRow wa (W.map nI)) :
    Takes (sAct3 s st nm cm op pa nu W L) fault fp place (F_X5_takeToken_26 num place (nI s) (nI L.length) (nI cm) fault fp (nI nm) (nI op) (nI pa) (nI st) (nI W.length) code wa) := by
  unfold sAct3 F_X5_takeToken_26
  by_cases c : st = 3
  · rw [if_pos c] at hb
    rw [if_pos (show nI st = (3 : Int32) by rw [c]; rfl)]
    by_cases d : s = 5
    · rw [if_pos (show nI s = (5 : Int32) by rw [d]; rfl), if_neg (fun z => z.2 d)]
      exact act4_n hs hst hcm hnm hnu hx hv (fun z => by have := hb0 z; omega) h ho hop h3 (by omega) hc hr
    · rw [if_neg (show ¬ nI s = (5 : Int32) from fun z => d ((nI_eq (show s < 2 ^ 31 by omega) (show 5 < 2 ^ 31 by omega)).mp z)), if_pos ⟨c, d⟩, emit_n hnm (v := 0) (by omega) (by decide) (by omega), Option.bind_some, show (4 : Int32) = nI 4 from rfl]
      exact act4_n hs (by omega) hcm hnm hnu hx hv (fun z => by have := hb0 z; rw [List.length_append, List.length_singleton]; omega) h ho hop h3 (by rw [List.length_append, List.length_singleton]; omega) (hc.snoc nm 0) hr
  · rw [if_neg c] at hb
    rw [if_neg (show ¬ nI st = (3 : Int32) from fun z => c ((nI_eq (show st < 2 ^ 31 by omega) (show 3 < 2 ^ 31 by omega)).mp z)), if_neg (fun z => c z.1)]
    exact act4_n hs hst hcm hnm hnu hx hv (fun z => by have := hb0 z; omega) h ho hop h3 (by omega) hc hr
theorem act3_n (hs : s < 32) (hst : st ≤ 7) (hcm : cm ≤ 1) (hnm : nm < 32) (hnu : nu < 16384) (hx : s = 6 ∨ s = 9 ∨ s = 10 → (num &&& 16383) = nI nu) (hv : s = 6 → num = nI nu) (hb : W.length + L.length + (if st = 3 then 1 else 0) ≤ b) (hb4 : b ≤ 400) (hb0 : s ≠ 0 → b < 400) (h : lvOk W) (ho : opens W = op) (hop : op ≤ 8) (h3 : cnt3 W = pa) (hc : CodeIs code L) (hr : onRow wa (W.map nI)) :
    Takes (sAct3 s st nm cm op pa nu W L) fault fp place (F_X5_takeToken (nI L.length) (nI cm) fault fp (nI nm) num (nI op) (nI pa) place (nI s) (nI st) (nI W.length) code wa) := by
  unfold F_X5_takeToken
  by_cases c7 : st = 7
  · subst c7
    rw [if_neg (show ¬ (7 : Nat) = 3 by decide)] at hb
    rw [if_pos (show nI 7 = (7 : Int32) from rfl)]
    by_cases d : s = 0
    · have hR : sAct3 s 7 nm cm op pa nu W L = sAct3 s 8 nm cm op pa nu W L := by simp [sAct3, sAct4, sAct]
      rw [if_pos (show nI s = (0 : Int32) by rw [d]; rfl), hR, show (8 : Int32) = nI 8 from rfl]
      exact act26_n hs (Or.inr ⟨rfl, d⟩) hcm hnm hnu hx hv (by rw [if_neg (show ¬ (8 : Nat) = 3 by decide)]; exact hb) hb4 hb0 h ho hop h3 hc hr
    · have hR : sAct3 s 7 nm cm op pa nu W L = sAct3 s 0 nm cm op pa nu W L := by simp [sAct3, sAct4, sAct, d]
      rw [if_neg (show ¬ nI s = (0 : Int32) from fun z => d ((nI_eq (show s < 2 ^ 31 by omega) (show 0 < 2 ^ 31 by omega)).mp z)), hR, show (0 : Int32) = nI 0 from rfl]
      exact act26_n hs (Or.inl (by omega)) hcm hnm hnu hx hv (by rw [if_neg (show ¬ (0 : Nat) = 3 by decide)]; exact hb) hb4 hb0 h ho hop h3 hc hr
  · rw [if_neg (show ¬ nI st = (7 : Int32) from fun z => c7 ((nI_eq (show st < 2 ^ 31 by omega) (show 7 < 2 ^ 31 by omega)).mp z))]
    exact act26_n hs (Or.inl (by omega)) hcm hnm hnu hx hv hb hb4 hb0 h ho hop h3 hc hr
/-- a new state keeps what holds -/
def Iv0 (nm cm op pa nu : Nat) (W : List Nat) (L : List (Nat × Nat)) (b : Nat) : Prop := lvOk W ∧ opens W = op ∧ op ≤ 8 ∧ cnt3 W = pa ∧ W.length + L.length ≤ b ∧ nu < 16384 ∧ nm < 32 ∧ cm ≤ 1
theorem iv_unit (h : Iv0 nm cm op pa nu W L b) (hs : s < 32) (h0 : (sUnit s nm cm op pa nu W L).1 = 0) : Iv (sUnit s nm cm op pa nu W L).2 (b + 1) := by
  obtain ⟨a1, a2, a3, a4, a5, a6, a7, a8⟩ := h
  unfold sUnit at h0 ⊢
  by_cases c : s = 7 ∨ s = 8
  · rw [if_pos c]
    exact ⟨a1, a2, a3, a4, fun z => by dsimp only at z; omega, by dsimp only; rw [if_pos rfl]; omega, a6, hs, a8, by dsimp only; omega⟩
  · rw [if_neg c] at h0 ⊢
    by_cases d : s = 6 ∨ s = 9 ∨ s = 10
    · rw [if_pos d]
      exact ⟨a1, a2, a3, a4, fun z => by dsimp only at z; omega, by dsimp only; rw [if_neg (by omega), List.length_append, List.length_singleton]; omega, a6, a7, a8, by dsimp only; omega⟩
    · rw [if_neg d] at h0
      cases h0
theorem iv_clause (h : Iv0 nm cm op pa nu W L b) (hs : s < 32) (hh : rk (W.headD 0) ≤ 3) (h0 : (sClause s nm cm op pa nu W L).1 = 0) : Iv (sClause s nm cm op pa nu W L).2 (b + 1) := by
  have h' := h
  obtain ⟨a1, a2, a3, a4, a5, a6, a7, a8⟩ := h
  unfold sClause at h0 ⊢
  by_cases c : s = 14 ∨ s = 3
  · rw [if_pos c] at h0 ⊢
    by_cases d : op < 8
    · rw [if_pos d]
      refine ⟨⟨a1, Or.inl ⟨c.symm, hh⟩⟩, ?_, by dsimp only; omega, ?_, fun _ => ?_, by dsimp only; rw [if_neg (by omega), List.length_cons]; omega, a6, a7, a8, by dsimp only; omega⟩
      · show opens (s :: W) = op + 1
        rw [opens, if_pos c.symm, a2]
      · show cnt3 (s :: W) = if s = 3 then pa + 1 else pa
        rw [cnt3, a4]
        split <;> rfl
      · show rk ((s :: W).headD 0) ≤ 3
        rw [List.headD_cons]
        rcases c with c | c <;> subst c <;> decide
    · rw [if_neg d] at h0; cases h0
  · rw [if_neg c] at h0 ⊢
    by_cases d : s = 11
    · rw [if_pos d]
      exact ⟨a1, a2, a3, a4, fun z => by dsimp only at z; omega, by dsimp only; rw [if_neg (by omega)]; omega, a6, by dsimp only; omega, a8, by dsimp only; omega⟩
    · rw [if_neg d] at h0 ⊢
      exact iv_unit ⟨a1, a2, a3, a4, a5, a6, a7, by omega⟩ hs h0
theorem iv_owner (h : Iv0 nm cm op pa nu W L b) (h0 : (sOwner s nm cm op pa nu W L).1 = 0) : Iv (sOwner s nm cm op pa nu W L).2 (b + 1) := by
  obtain ⟨a1, a2, a3, a4, a5, a6, a7, a8⟩ := h
  unfold sOwner at h0 ⊢
  by_cases c : s = 6
  · rw [if_pos c] at h0 ⊢
    by_cases d : nm = 11
    · rw [if_pos d] at h0 ⊢
      by_cases g : nu < 10
      · rw [if_pos g]
        exact ⟨a1, a2, a3, a4, fun z => by dsimp only at z; omega, by dsimp only; rw [if_neg (by omega), List.length_append, List.length_singleton]; omega, a6, a7, a8, by dsimp only; omega⟩
      · rw [if_neg g] at h0; cases h0
    · rw [if_neg d] at h0 ⊢
      by_cases g : nu < 6
      · rw [if_pos g]
        exact ⟨a1, a2, a3, a4, fun z => by dsimp only at z; omega, by show W.length + (L ++ [((if nm = 7 then 12 else 13), nu)]).length + (if (4 : Nat) = 3 then 1 else 0) ≤ b + 1; rw [List.length_append, List.length_singleton, if_neg (show ¬ (4 : Nat) = 3 by omega)]; omega, a6, a7, a8, by dsimp only; omega⟩
      · rw [if_neg g] at h0; cases h0
  · rw [if_neg c] at h0; cases h0
theorem iv_push {st' cm' : Nat} (h : Iv0 nm cm op pa nu W L b) (h1 : 15 ≤ s) (h2 : s ≤ 22) (hst : st' ≤ 1) (hcm : cm' ≤ 1) (hlow : st' = 0 → rk s ≤ 3) : Iv (pushS s st' nm cm' op pa nu W L) (b + 1) := by
  obtain ⟨a1, a2, a3, a4, a5, a6, a7, a8⟩ := h
  have hk : 1 ≤ rk s := by
    have : ∀ s, s < 32 → 15 ≤ s → s ≤ 22 → 1 ≤ rk s := by decide +kernel
    exact this s (by omega) h1 h2
  obtain ⟨f1, f2, f3, f4, f5, f6⟩ := rel_facts hk W op L a1 a2
  unfold pushS
  refine ⟨⟨f1, Or.inr ⟨f6, h1, h2⟩⟩, ?_, by dsimp only; omega, ?_, fun z => ?_, ?_, a6, a7, hcm, by dsimp only; omega⟩
  · show opens (s :: (rel (rk s) W op L).1) = _
    rw [opens, if_neg (by omega), f2]; rfl
  · show cnt3 (s :: (rel (rk s) W op L).1) = pa
    rw [cnt3, if_neg (by omega), f4, a4, Nat.add_zero]
  · show rk ((s :: (rel (rk s) W op L).1).headD 0) ≤ 3
    rw [List.headD_cons]
    dsimp only at z
    exact hlow (by omega)
  · dsimp only
    rw [if_neg (by omega), List.length_cons]
    omega
theorem iv_act (h : Iv0 nm cm op pa nu W L b) (hs : s < 32) (hh : st = 0 ∨ st = 7 → rk (W.headD 0) ≤ 3) (hst : st ≤ 7) (h0 : (sAct s st nm cm op pa nu W L).1 = 0) : Iv (sAct s st nm cm op pa nu W L).2 (b + 1) := by
  have h' := h
  obtain ⟨a1, a2, a3, a4, a5, a6, a7, a8⟩ := h
  unfold sAct at h0 ⊢
  by_cases c0 : st = 0
  · rw [if_pos c0] at h0 ⊢; exact iv_clause h' hs (hh (Or.inl c0)) h0
  rw [if_neg c0] at h0 ⊢
  by_cases c1 : st = 1
  · rw [if_pos c1] at h0 ⊢; exact iv_unit h' hs h0
  rw [if_neg c1] at h0 ⊢
  by_cases c2 : st = 2
  · rw [if_pos c2] at h0 ⊢; exact iv_owner h' h0
  rw [if_neg c2] at h0 ⊢
  by_cases c3 : st = 3
  · rw [if_pos c3]
    exact ⟨a1, a2, a3, a4, fun z => by dsimp only at z; omega, by dsimp only; rw [if_neg (by omega)]; omega, a6, a7, a8, by dsimp only; omega⟩
  rw [if_neg c3] at h0 ⊢
  by_cases c4 : st = 4
  · rw [if_pos c4] at h0 ⊢
    unfold sBU at h0 ⊢
    by_cases d : dSm s
    · rw [if_pos d]
      exact iv_push h' (by rcases d with d | d | d <;> omega) (by rcases d with d | d | d <;> omega) (by omega) a8 (fun z => by omega)
    · rw [if_neg d] at h0 ⊢
      by_cases d2 : dCp s
      · rw [if_pos d2]
        exact iv_push h' (by rcases d2 with d | d | d <;> omega) (by rcases d2 with d | d | d <;> omega) (by omega) (by omega) (fun z => by omega)
      · rw [if_neg d2] at h0; cases h0
  rw [if_neg c4] at h0 ⊢
  by_cases c5 : st = 5
  · rw [if_pos c5] at h0 ⊢
    unfold sBC at h0 ⊢
    by_cases d : s = 21 ∨ s = 22
    · rw [if_pos d]
      exact iv_push h' (by omega) (by omega) (by omega) a8 (fun _ => by rcases d with d | d <;> subst d <;> decide)
    rw [if_neg d] at h0 ⊢
    obtain ⟨f1, f2, f3, f4, f5, f6⟩ := rel_facts (k := 1) (by omega) W op L a1 a2
    by_cases d2 : s = 4 ∧ 0 < pa
    · rw [if_pos d2]
      generalize rel 1 W op L = Z at *
      obtain ⟨W', op', L'⟩ := Z
      dsimp only at *
      cases W' with
      | nil => exfalso; rw [cnt3] at f4; omega
      | cons x W' =>
        rw [List.headD_cons] at f6
        have hx3 : x = 3 := by
          have := lvOk_lt f1 x List.mem_cons_self
          rcases f1.2 with q | q
          · rcases q.1 with q | q
            · exact q
            · subst q; exfalso; have : rk 14 = 3 := by decide
              omega
          · omega
        subst hx3
        rw [opens, if_pos (Or.inl rfl)] at f2
        rw [cnt3, if_pos rfl] at f4
        rw [List.length_cons] at f5
        exact ⟨f1.1, by show opens W' = op' - 1; omega, by show op' - 1 ≤ 8; omega, by show cnt3 W' = pa - 1; omega, fun z => by dsimp only at z; omega, by show W'.length + L'.length + (if (5 : Nat) = 3 then 1 else 0) ≤ b + 1; rw [if_neg (by omega)]; omega, a6, a7, a8, by dsimp only; omega⟩
    rw [if_neg d2] at h0 ⊢
    by_cases d3 : s = 2 ∧ pa = 0
    · rw [if_pos d3]
      exact ⟨f1, f2, by dsimp only; omega, by dsimp only; omega, fun z => by dsimp only at z; omega, by dsimp only; rw [if_neg (by omega)]; omega, a6, a7, a8, by dsimp only; omega⟩
    · rw [if_neg d3] at h0; cases h0
  rw [if_neg c5] at h0 ⊢
  by_cases c6 : st = 6
  · rw [if_pos c6] at h0
    by_cases d : s = 0
    · rw [if_pos d] at h0; cases h0
    · rw [if_neg d] at h0; cases h0
  rw [if_neg c6] at h0 ⊢
  by_cases d : s = 0
  · rw [if_pos d] at h0; cases h0
  · rw [if_neg d] at h0 ⊢
    exact iv_clause h' hs (hh (Or.inr (by omega))) h0
end CLS
theorem iv_step {S : PS} {s v b : Nat} (h : Iv S b) (hs : s < 32) (hv : s = 6 → v < 16384) (h0 : (step S s v).1 = 0) : Iv (step S s v).2 (b + 1) := by
  obtain ⟨st, nm, cm, op, pa, nu, W, L⟩ := S
  obtain ⟨a1, a2, a3, a4, a5, a6, a7, a8, a9, a10⟩ := h
  dsimp only at *
  have hnu : (if s = 6 then v else nu) < 16384 := by
    by_cases c : s = 6
    · rw [if_pos c]; exact hv c
    · rw [if_neg c]; exact a7
  unfold step sAct3 at h0 ⊢
  dsimp only at h0 ⊢
  unfold sAct4 at h0 ⊢
  by_cases c : st = 3 ∧ s ≠ 5
  · rw [if_pos c] at h0 ⊢
    rw [if_pos c.1] at a6
    refine iv_act ⟨a1, a2, a3, a4, by rw [List.length_append, List.length_singleton]; omega, hnu, a8, a9⟩ hs (fun z => ?_) ?_ h0
    · exfalso
      split at z <;> omega
    · split <;> omega
  · rw [if_neg c] at h0 ⊢
    refine iv_act ⟨a1, a2, a3, a4, by omega, hnu, a8, a9⟩ hs (fun z => ?_) ?_ h0
    · refine a5 ?_
      split at z <;> omega
    · split <;> omega
