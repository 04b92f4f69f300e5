/-! the class's reading is the machine's run -/
theorem step_end {S : PS} {v : Nat} (hst : S.1 ≤ 7) : (step S 0 v).1 ≠ 0 ∧ (step S 1 v).1 ≠ 0 := by
  obtain ⟨st, nm, cm, op, pa, nu, W, L⟩ := S
  dsimp only at hst
  have h : st = 0 ∨ st = 1 ∨ st = 2 ∨ st = 3 ∨ st = 4 ∨ st = 5 ∨ st = 6 ∨ st = 7 := by omega
  by_cases hcm : cm = 0
  · rcases h with h | h | h | h | h | h | h | h <;> subst h <;> simp [step, sAct3, sAct4, sAct, sClause, sUnit, sOwner, sBU, sBC, dSm, dCp, hcm]
  · rcases h with h | h | h | h | h | h | h | h <;> subst h <;> simp [step, sAct3, sAct4, sAct, sClause, sUnit, sOwner, sBU, sBC, dSm, dCp, hcm]
section ST8
variable {s st nm cm op pa nu : Nat} {W : List Nat} {L : List (Nat × Nat)}
/-- where it stops, and the name -/
def S8 (nu : Nat) (L : List (Nat × Nat)) (R : Nat × PS) : Prop := (R.1 = 0 ∨ (R.1 ≤ 4 ∧ R.2.1 = 8)) ∧ R.2.2.1 < 32 ∧ R.2.2.2.2.2.2.1 = nu ∧ (R.1 = 4 → R.2.2.2.2.2.2.2.2 = L)
theorem s8_unit (hs : s < 32) (hnm : nm < 32) : S8 nu L (sUnit s nm cm op pa nu W L) := by
  unfold sUnit
  repeat' split
  all_goals first | exact ⟨Or.inl rfl, hs, rfl, fun z => absurd z (by dsimp only; omega)⟩ | exact ⟨Or.inl rfl, hnm, rfl, fun z => absurd z (by dsimp only; omega)⟩ | exact ⟨Or.inr ⟨by dsimp only; omega, rfl⟩, hnm, rfl, fun _ => rfl⟩
theorem s8_clause (hs : s < 32) (hnm : nm < 32) : S8 nu L (sClause s nm cm op pa nu W L) := by
  unfold sClause
  split
  · split
    · exact ⟨Or.inl rfl, hnm, rfl, fun z => absurd z (by dsimp only; omega)⟩
    · exact ⟨Or.inr ⟨by dsimp only; omega, rfl⟩, hnm, rfl, fun _ => rfl⟩
  · split
    · exact ⟨Or.inl rfl, by dsimp only; omega, rfl, fun z => absurd z (by dsimp only; omega)⟩
    · exact s8_unit hs hnm
theorem s8_act (hs : s < 32) (hnm : nm < 32) : S8 nu L (sAct s st nm cm op pa nu W L) := by
  unfold sAct
  split
  · exact s8_clause hs hnm
  split
  · exact s8_unit hs hnm
  split
  · unfold sOwner
    repeat' split
    all_goals first | exact ⟨Or.inl rfl, hnm, rfl, fun z => absurd z (by dsimp only; omega)⟩ | exact ⟨Or.inr ⟨by dsimp only; omega, rfl⟩, hnm, rfl, fun _ => rfl⟩
  split
  · exact ⟨Or.inl rfl, hnm, rfl, fun z => absurd z (by dsimp only; omega)⟩
  split
  · unfold sBU pushS
    repeat' split
    all_goals first | exact ⟨Or.inl rfl, hnm, rfl, fun z => absurd z (by dsimp only; omega)⟩ | exact ⟨Or.inr ⟨by dsimp only; omega, rfl⟩, hnm, rfl, fun _ => rfl⟩
  split
  · unfold sBC pushS
    repeat' split
    all_goals first | exact ⟨Or.inl rfl, hnm, rfl, fun z => absurd z (by dsimp only; omega)⟩ | exact ⟨Or.inr ⟨by dsimp only; omega, rfl⟩, hnm, rfl, fun _ => rfl⟩
  split
  · split
    all_goals exact ⟨Or.inr ⟨by dsimp only; omega, rfl⟩, hnm, rfl, fun _ => rfl⟩
  split
  · exact ⟨Or.inr ⟨by dsimp only; omega, rfl⟩, hnm, rfl, fun _ => rfl⟩
  · exact s8_clause hs hnm
end ST8
theorem s8_step {S : PS} {s v : Nat} (hs : s < 32) (hnm : S.2.1 < 32) : ∃ L0 : List (Nat × Nat), L0.length ≤ S.2.2.2.2.2.2.2.length + (if S.1 = 3 then 1 else 0) ∧ S8 (if s = 6 then v else S.2.2.2.2.2.1) L0 (step S s v) := by
  unfold step sAct3 sAct4
  by_cases c : S.1 = 3 ∧ s ≠ 5
  · rw [if_pos c]
    exact ⟨_, by rw [if_pos c.1, List.length_append, List.length_singleton]; exact Nat.le_refl _, s8_act hs hnm⟩
  · rw [if_neg c]
    exact ⟨_, Nat.le_add_right _ _, s8_act hs hnm⟩
theorem read_8 {r : Nat → Int32} {ln x at1 codes cm fa fp nm num op pa pl sg wt : Int32} {code wa : Nat → Int32} {g : Nat} : F_X5_read_48 ln r (g + 1) x at1 codes cm fa fp nm num op pa pl sg 8 wt code wa = some (at1, codes, cm, fa, fp, nm, num, op, pa, pl, sg, 8, wt, code, wa) := by
  rw [F_X5_read_48]
  by_cases c : (400 : Int32) < x
  · rw [if_pos c]
  · rw [if_neg c, if_pos rfl]
/-- what the class's fields hold once it has read -/
def ReadOut (out : Nat × Nat × List (Nat × Nat)) (fault fp : Int32) (x : Option (Int32 × Int32 × Int32 × Int32 × Int32 × Int32 × Int32 × Int32 × Int32 × Int32 × Int32 × Int32 × Int32 × (Nat → Int32) × (Nat → Int32))) : Prop :=
  ∃ at' codes' cm' fa' fp' nm' num' op' pa' pl' sg' wt' code' wa', x = some (at', codes', cm', fa', fp', nI nm', num', op', pa', pl', sg', 8, wt', code', wa') ∧ nm' < 32 ∧ out.1 ≤ 3 ∧ (out.1 = 0 → fa' = fault ∧ fp' = fp ∧ codes' = nI out.2.2.length ∧ CodeIs code' out.2.2 ∧ out.2.2.length ≤ 400) ∧ (out.1 ≠ 0 → fa' = nI out.1 ∧ fp' = nI out.2.1)
theorem read_loop {r : Nat → Int32} {T : Nat → Nat} {n : Nat} (h : TxtIs r T n) : ∀ f i (S : PS) x g num place sign fault fp code wa out, Iv S i → i ≤ n → x ≤ i → 402 < x + g → (num &&& 16383) = nI S.2.2.2.2.2.1 → CodeIs code S.2.2.2.2.2.2.2 → onRow wa (S.2.2.2.2.2.2.1.map nI) → crun T n f i S = some out →
    ReadOut out fault fp (F_X5_read_48 (nI n) r g (nI x) (nI i) (nI S.2.2.2.2.2.2.2.length) (nI S.2.2.1) fault fp (nI S.2.1) num (nI S.2.2.2.1) (nI S.2.2.2.2.1) place sign (nI S.1) (nI S.2.2.2.2.2.2.1.length) code wa) := by
  have hn := h.1
  intro f
  induction f with
  | zero => intro i S x g num place sign fault fp code wa out _ _ _ _ _ _ _ hc; cases hc
  | succ f ih =>
    intro i S x g num place sign fault fp code wa out hI hi hx hg hm hcd hr hc
    obtain ⟨g, rfl⟩ : ∃ q, g = q + 1 := ⟨g - 1, by omega⟩
    obtain ⟨a1, a2, a3, a4, a5, a6, a7, a8, a9, a10⟩ := id hI
    obtain ⟨num', t1, t2, t3⟩ := nextToken_s h hi num place sign
    have hok := tS_ok h hi
    have hp := tP_le (T := T) hi
    have he := tE_le (T := T) hi
    have hs : tS T n i < 32 := by have := hok.1; omega
    have hV : tS T n i = 6 → tV T n i < 16384 := fun z => by have := tV_lt z; omega
    have hlt : tS T n i ≠ 0 → i < tE T n i := fun z => by have := tE_lt z; omega
    have hmask : tS T n i ≠ 1 → (num' &&& 16383) = nI (if tS T n i = 6 then tV T n i else S.2.2.2.2.2.1) := by
      intro z
      by_cases c : tS T n i = 6
      · rw [if_pos c, t2 c, pk_andN (by have := hV c; omega) 14 (by decide), Nat.mod_eq_of_lt (hV c)]
      · rw [if_neg c, t3 c z]; exact hm
    have hnu : (if tS T n i = 6 then tV T n i else S.2.2.2.2.2.1) < 16384 := by
      by_cases c : tS T n i = 6
      · rw [if_pos c]; exact hV c
      · rw [if_neg c]; exact a7
    have ht := act3_n (s := tS T n i) (st := S.1) (nm := S.2.1) (cm := S.2.2.1) (op := S.2.2.2.1) (pa := S.2.2.2.2.1) (nu := if tS T n i = 6 then tV T n i else S.2.2.2.2.2.1) (b := i) (W := S.2.2.2.2.2.2.1) (L := S.2.2.2.2.2.2.2) (fault := fault) (fp := fp) (place := nI (tP T n i)) (num := num') hs a10 a9 a8 hnu (fun z => hmask (by omega)) (fun z => by rw [if_pos z]; exact t2 z) a6 (by omega) (fun z => by have := hlt z; omega) a1 a2 a3 a4 hcd hr
    rw [show sAct3 (tS T n i) S.1 S.2.1 S.2.2.1 S.2.2.2.1 S.2.2.2.2.1 (if tS T n i = 6 then tV T n i else S.2.2.2.2.2.1) S.2.2.2.2.2.2.1 S.2.2.2.2.2.2.2 = step S (tS T n i) (tV T n i) from rfl] at ht
    obtain ⟨code', wa', q1, q2, q3⟩ := ht
    obtain ⟨L0, hL0, h8⟩ := s8_step (S := S) (s := tS T n i) (v := tV T n i) hs a8
    rw [F_X5_read_48, if_neg (show ¬ (400 : Int32) < nI x from nI_nlt (b := x) (a := 400) (by omega) (by omega)), if_neg (show ¬ nI S.1 = (8 : Int32) from fun z => by have := (nI_eq (show S.1 < 2 ^ 31 by omega) (show 8 < 2 ^ 31 by omega)).mp z; omega), t1, Option.bind_some, q1, Option.bind_some, nI_1]
    rw [crun] at hc
    by_cases c0 : (step S (tS T n i) (tV T n i)).1 = 0
    · rw [if_pos c0] at hc
      have n0 : tS T n i ≠ 0 := fun z => by rw [z] at c0; exact (step_end a10).1 c0
      have n1 : tS T n i ≠ 1 := fun z => by rw [z] at c0; exact (step_end a10).2 c0
      have hI' := iv_step hI hs hV c0
      have hb : Iv (step S (tS T n i) (tV T n i)).2 (tE T n i) := by
        obtain ⟨b1, b2, b3, b4, b5, b6, b7⟩ := hI'
        exact ⟨b1, b2, b3, b4, b5, by have := hlt n0; omega, b7⟩
      have hnu' := h8.2.2.1
      have := ih (tE T n i) (step S (tS T n i) (tV T n i)).2 (x + 1) g num' (nI (tP T n i)) (nI (tS T n i)) fault fp code' wa' out hb he.2 (by have := hlt n0; omega) (by omega) (by rw [hnu']; exact hmask n1) q2 q3 hc
      rw [show fz (step S (tS T n i) (tV T n i)).1 fault = fault by unfold fz; rw [if_pos (Or.inl c0)], show pz (step S (tS T n i) (tV T n i)).1 fp (nI (tP T n i)) = fp by unfold pz; rw [if_pos (Or.inl c0)]]
      exact this
    · rw [if_neg c0] at hc
      obtain ⟨e1, e2⟩ := h8.1.resolve_left c0
      obtain ⟨g, rfl⟩ : ∃ q, g = q + 1 := ⟨g - 1, by omega⟩
      dsimp only
      rw [e2, show nI 8 = (8 : Int32) from rfl, read_8]
      by_cases c4 : (step S (tS T n i) (tV T n i)).1 = 4
      · rw [if_pos c4] at hc
        cases hc
        refine ⟨_, _, _, _, _, _, _, _, _, _, _, _, _, _, rfl, h8.2.1, by dsimp only; omega, fun _ => ⟨?_, ?_, rfl, q2, ?_⟩, fun z => absurd rfl z⟩
        · unfold fz; rw [if_pos (Or.inr c4)]
        · unfold pz; rw [if_pos (Or.inr c4)]
        · dsimp only
          rw [h8.2.2.2 c4]
          omega
      · rw [if_neg c4] at hc
        cases hc
        refine ⟨_, _, _, _, _, _, _, _, _, _, _, _, _, _, rfl, h8.2.1, by dsimp only; omega, fun z => absurd z c0, fun _ => ⟨?_, ?_⟩⟩
        · unfold fz; rw [if_neg (by omega)]
        · unfold pz; rw [if_neg (by omega)]
