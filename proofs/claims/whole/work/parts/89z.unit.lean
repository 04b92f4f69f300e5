/-! the reference reads a unit as the machine does -/
/-- the reference stands before the token at i -/
def AtTok (T : Nat → Nat) (n i : Nat) (at1 fr tk va : Int32) : Prop := at1 = nI (tE T n i) ∧ fr = nI (tP T n i) ∧ TR (tS T n i) (tV T n i) tk va
def Keeps (op arg op0 arg0 : Nat → Int32) : Prop := ∀ j, j < 2000 → op j = op0 j ∧ arg j = arg0 j
def DraftIs (L : List (Nat × Nat)) (op arg op0 arg0 : Nat → Int32) : Prop := (∀ j c, L[j]? = some c → op (2000 + j) = nI (opOf c.1) ∧ arg (2000 + j) = nI (argOf c.1 c.2)) ∧ Keeps op arg op0 arg0
theorem emits_n {L : List (Nat × Nat)} {op arg op0 arg0 : Nat → Int32} (h : DraftIs L op arg op0 arg0) (hl : L.length < 500) {s v : Nat} {x1 x2 : Int32} (h1 : x1 = nI (opOf s)) (h2 : x2 = nI (argOf s v)) :
    ∃ arg' op', F_X12_emits x1 x2 (nI L.length) arg op = some (nI (L ++ [(s, v)]).length, arg', op') ∧ DraftIs (L ++ [(s, v)]) op' arg' op0 arg0 := by
  unfold F_X12_emits
  rw [show (2000 : Int32) = nI 2000 from rfl, nI_add, gin_n (show 2000 + L.length < 2500 by omega) (by omega), gin_n (show 2000 + L.length < 2500 by omega) (by omega), nI_clamp (by omega), nI_1, List.length_append, List.length_singleton]
  refine ⟨_, _, rfl, fun j c hj => ?_, fun j hj => ?_⟩
  · by_cases e : j = L.length
    · subst e
      rw [List.getElem?_append_right (Nat.le_refl _), Nat.sub_self] at hj
      cases hj
      rw [upd_self, upd_self]
      exact ⟨h1, h2⟩
    · have hlt : j < L.length := by
        have := (List.getElem?_eq_some_iff.mp hj).1
        rw [List.length_append, List.length_singleton] at this
        omega
      rw [List.getElem?_append_left hlt] at hj
      rw [upd_ne _ _ (by omega), upd_ne _ _ (by omega)]
      exact h.1 j c hj
  · rw [upd_ne _ _ (by omega), upd_ne _ _ (by omega)]
    exact h.2 j hj
theorem sg_f1 : ∀ s, s < 23 → (s = 12 ∨ s = 13 ∨ ((sTk s = 3 ↔ s = 6) ∧ (sTk s = 0 ↔ s = 0) ∧ sTk s < 5 ∧ sVal s < 63)) := by decide +kernel
theorem sg_f2 : ∀ s, s < 23 → (s = 12 ∨ s = 13 ∨ ((sTk s = 2 → s ≠ 0 ∧ s ≠ 1 ∧ s ≠ 6) ∧ (sTk s = 4 → s ≠ 0 ∧ s ≠ 1 ∧ s ≠ 6))) := by decide +kernel
theorem sg_f3 : ∀ s, s < 23 → (s = 12 ∨ s = 13 ∨ (sTk s = 2 ∧ sVal s ≤ 3 ↔ (7 ≤ s ∧ s ≤ 10))) := by decide +kernel
theorem sg_facts (s : Nat) (h : s < 23) (h1 : s ≠ 12) (h2 : s ≠ 13) : (sTk s = 3 ↔ s = 6) ∧ (sTk s = 2 → s ≠ 0 ∧ s ≠ 1 ∧ s ≠ 6) ∧ (sTk s = 4 → s ≠ 0 ∧ s ≠ 1 ∧ s ≠ 6) ∧ (sTk s = 0 ↔ s = 0) ∧ sTk s < 5 ∧ sVal s < 63 ∧ (sTk s = 2 ∧ sVal s ≤ 3 ↔ (7 ≤ s ∧ s ≤ 10)) := by
  have a := ((sg_f1 s h).resolve_left h1).resolve_left h2
  have b := ((sg_f2 s h).resolve_left h1).resolve_left h2
  have c := ((sg_f3 s h).resolve_left h1).resolve_left h2
  exact ⟨a.1, b.1, b.2, a.2.1, a.2.2.1, a.2.2.2, c⟩
theorem sg_ap : ∀ s, s < 23 → ∀ w, w < 23 → (s = 12 ∨ s = 13 ∨ s = w ∨ sTk s ≠ sTk w ∨ sVal s ≠ sVal w ∨ (sTk w ≠ 2 ∧ sTk w ≠ 4)) := by decide +kernel
theorem sg_apart (s : Nat) (h : s < 23) (w : Nat) (hw : w < 23) (h1 : s ≠ 12) (h2 : s ≠ 13) (h3 : sTk w = 2 ∨ sTk w = 4) (h4 : sTk s = sTk w) (h5 : sVal s = sVal w) : s = w := by
  rcases sg_ap s h w hw with a | a | a | a | a | a
  · exact absurd a h1
  · exact absurd a h2
  · exact a
  · exact absurd h4 a
  · exact absurd h5 a
  · exact h3.elim (fun z => absurd z a.1) (fun z => absurd z a.2)
section SG
variable {s v : Nat} {tk va : Int32}
theorem isWord_tr (h : TR s v tk va) (hs : sOk s) {w : Nat} (hw : w ≤ 22) (h2 : sTk w = 2) : F_X12_isWord (nI (sVal w)) tk va = some (if s = w then 1 else 0) := by
  obtain ⟨f1, f2, f3, f4, f5, f6, f7⟩ := sg_facts s (Nat.lt_succ_of_le hs.1) hs.2.1 hs.2.2
  unfold F_X12_isWord
  rw [h.1, show (2 : Int32) = nI 2 from rfl]
  simp only [nI_eq (show sTk s < 2 ^ 31 by omega) (show 2 < 2 ^ 31 by omega)]
  by_cases c : sTk s = 2
  · obtain ⟨g1, g2, g3⟩ := f2 c
    have hw6 : sVal w < 63 := by
      have : ∀ w, w < 23 → sVal w < 63 := by decide +kernel
      exact this w (Nat.lt_succ_of_le hw)
    rw [if_pos c, h.2.2 g1 g2 g3]
    simp only [nI_eq (show sVal s < 2 ^ 31 by omega) (show sVal w < 2 ^ 31 by omega)]
    by_cases d : s = w
    · rw [if_pos d, if_pos (by rw [d])]
    · rw [if_neg d, if_neg (fun z => d (sg_apart s (Nat.lt_succ_of_le hs.1) w (Nat.lt_succ_of_le hw) hs.2.1 hs.2.2 (Or.inl h2) (by omega) z))]
  · rw [if_neg c, if_neg (fun z => c (by rw [z]; exact h2))]
theorem isSign_tr (h : TR s v tk va) (hs : sOk s) {w : Nat} (hw : w ≤ 22) (h2 : sTk w = 4) : F_X12_isSign (nI (sVal w)) tk va = some (if s = w then 1 else 0) := by
  obtain ⟨f1, f2, f3, f4, f5, f6, f7⟩ := sg_facts s (Nat.lt_succ_of_le hs.1) hs.2.1 hs.2.2
  unfold F_X12_isSign
  rw [h.1, show (4 : Int32) = nI 4 from rfl]
  simp only [nI_eq (show sTk s < 2 ^ 31 by omega) (show 4 < 2 ^ 31 by omega)]
  by_cases c : sTk s = 4
  · obtain ⟨g1, g2, g3⟩ := f3 c
    have hw6 : sVal w < 63 := by
      have : ∀ w, w < 23 → sVal w < 63 := by decide +kernel
      exact this w (Nat.lt_succ_of_le hw)
    rw [if_pos c, h.2.2 g1 g2 g3]
    simp only [nI_eq (show sVal s < 2 ^ 31 by omega) (show sVal w < 2 ^ 31 by omega)]
    by_cases d : s = w
    · rw [if_pos d, if_pos (by rw [d])]
    · rw [if_neg d, if_neg (fun z => d (sg_apart s (Nat.lt_succ_of_le hs.1) w (Nat.lt_succ_of_le hw) hs.2.1 hs.2.2 (Or.inr h2) (by omega) z))]
  · rw [if_neg c, if_neg (fun z => c (by rw [z]; exact h2))]
theorem isNum_tr (h : TR s v tk va) (hs : sOk s) : (tk = 3) ↔ s = 6 := by
  obtain ⟨f1, f2, f3, f4, f5, f6, f7⟩ := sg_facts s (Nat.lt_succ_of_le hs.1) hs.2.1 hs.2.2
  rw [h.1, show (3 : Int32) = nI 3 from rfl, nI_eq (by omega) (by omega)]
  exact f1
end SG
/-- of the right kind: n more on the stack of kinds at most -/
def TyM (b : Bool) (d : Nat) (M : List (Nat × Nat)) : Prop := (∀ c ∈ M, opOk c.1 c.2) ∧ ∀ T0 : List Bool, T0.length + d ≤ 40 → tRun M T0 = some (b :: T0)
theorem tRun_app : ∀ (M N : List (Nat × Nat)) (T0 : List Bool), tRun (M ++ N) T0 = (tRun M T0).bind (tRun N)
  | [], _, _ => rfl
  | c :: M, N, T0 => by
    rw [List.cons_append, tRun, tRun]
    cases tStep c.1 T0 with
    | none => rfl
    | some T1 => exact tRun_app M N T1
theorem ty_unit {s v : Nat} (h6 : 6 ≤ s) (h13 : s ≤ 13) (h11 : s ≠ 11) (ho : opOk s v) : TyM false 1 [(s, v)] := by
  refine ⟨fun c hc => ?_, fun T0 h => ?_⟩
  · rcases List.mem_singleton.mp hc with rfl
    exact ho
  · show (tStep s T0).bind (tRun []) = _
    unfold tStep
    rw [if_neg h11, if_pos ⟨h6, by omega⟩, if_pos (by omega)]
    rfl
/-- a piece of the text read by both: st' the machine's state behind it -/
def Piece (T : Nat → Nat) (n i k : Nat) (S : PS) (st' cm' d : Nat) (b : Bool) (rf rp : Int32) (op0 arg0 : Nat → Int32) (x : Option (Int32 × Int32 × Int32 × Int32 × Int32 × Int32 × Int32 × Int32 × (Nat → Int32) × (Nat → Int32))) : Prop :=
  ∃ ret at1 fr many rf' rp' tk va arg op, x = some (ret, at1, fr, many, rf', rp', tk, va, arg, op) ∧ Keeps op arg op0 arg0 ∧
    ((ret = -1 ∧ ∃ kf pf, rf' = nI kf ∧ rp' = nI pf ∧ 1 ≤ kf ∧ kf ≤ 3 ∧ CR T n i S (kf, pf, [])) ∨
     (ret = 0 ∧ rf' = rf ∧ rp' = rp ∧ ∃ i' nm' nu' M, i < i' ∧ i' ≤ n ∧ AtTok T n i' at1 fr tk va ∧ many = nI (S.2.2.2.2.2.2.2 ++ M).length ∧ DraftIs (S.2.2.2.2.2.2.2 ++ M) op arg op0 arg0 ∧ (S.2.2.2.2.2.2.2 ++ M).length + k ≤ i' ∧ nu' < 16384 ∧ TyM b d M ∧
       ∀ out, CR T n i' (st', nm', cm', S.2.2.2.1, S.2.2.2.2.1, nu', S.2.2.2.2.2.2.1, S.2.2.2.2.2.2.2 ++ M) out → CR T n i S out))
section UN
variable {r wd : Nat → Int32} {T : Nat → Nat} {n : Nat}
theorem fails_n (x fr rf rp : Int32) : F_X12_fails x fr rf rp = some (-1, x, fr) := rfl
theorem step1 {s v nm cm op pa nu : Nat} {W : List Nat} {L : List (Nat × Nat)} : step (1, nm, cm, op, pa, nu, W, L) s v = sUnit s nm cm op pa (if s = 6 then v else nu) W L := by
  unfold step sAct3 sAct4
  dsimp only
  rw [if_neg (show ¬ ((1 : Nat) = 3 ∧ s ≠ 5) from fun z => absurd z.1 (by omega)), if_neg (show ¬ ((1 : Nat) = 4 ∧ cm ≠ 0 ∧ ¬ dSm s) from fun z => absurd z.1 (by omega))]
  rfl
theorem step2 {s v nm cm op pa nu : Nat} {W : List Nat} {L : List (Nat × Nat)} : step (2, nm, cm, op, pa, nu, W, L) s v = sOwner s nm cm op pa (if s = 6 then v else nu) W L := by
  unfold step sAct3 sAct4
  dsimp only
  rw [if_neg (show ¬ ((2 : Nat) = 3 ∧ s ≠ 5) from fun z => absurd z.1 (by omega)), if_neg (show ¬ ((2 : Nat) = 4 ∧ cm ≠ 0 ∧ ¬ dSm s) from fun z => absurd z.1 (by omega))]
  rfl
theorem step3 {v nm cm op pa nu : Nat} {W : List Nat} {L : List (Nat × Nat)} : step (3, nm, cm, op, pa, nu, W, L) 5 v = (0, 2, nm, cm, op, pa, nu, W, L) := by
  unfold step sAct3 sAct4
  dsimp only
  rw [if_neg (show ¬ ((3 : Nat) = 3 ∧ (5 : Nat) ≠ 5) from fun z => absurd rfl z.2), if_neg (show ¬ ((3 : Nat) = 4 ∧ cm ≠ 0 ∧ ¬ dSm 5) from fun z => absurd z.1 (by omega))]
  rfl
/-- a plain unit: a number, members, all, or a name that no 'of' follows -/
theorem unit_plain (h : TxtIs r T n) (hW : WordsIs wd) {i k nm cm op1 pa nu nm' nu' : Nat} {W : List Nat} {L : List (Nat × Nat)} {rf rp : Int32} {op arg op0 arg0 : Nat → Int32} (hi : i ≤ n) (h0 : tS T n i ≠ 0) (hk : L.length + k ≤ i) (hd : DraftIs L op arg op0 arg0) {x1 tk va : Int32} {s v : Nat} (hx : (x1 = 0 ∧ opOf s = 0) ∨ (x1 = 1 ∧ opOf s = 1)) {x2 : Int32} (h2 : x2 = nI (argOf s v)) (h6 : 6 ≤ s) (h10 : s ≤ 10) (ho : opOk s v) (hnu : nu' < 16384) (ht : TR (tS T n (tE T n i)) (tV T n (tE T n i)) tk va)
    (hC : ∀ out, CR T n (tE T n i) (4, nm', cm, op1, pa, nu', W, L ++ [(s, v)]) out → CR T n i (1, nm, cm, op1, pa, nu, W, L) out) :
    Piece T n i k (1, nm, cm, op1, pa, nu, W, L) 4 cm 1 false rf rp op0 arg0 (F_X12_readUnit_96 (nI n) r wd x1 x2 (nI (tE T n (tE T n i))) (nI (tP T n (tE T n i))) (nI L.length) rf rp tk va arg op) := by
  have hn := h.1
  have he := tE_le (T := T) hi
  have hp := tP_le (T := T) hi
  have hlt := tE_lt h0
  unfold F_X12_readUnit_96
  rcases hx with ⟨e1, e2⟩ | ⟨e1, e2⟩
  · obtain ⟨arg', op', q1, q2⟩ := emits_n (s := s) (v := v) (x1 := 0) (x2 := x2) hd (by omega) (by rw [e2]; rfl) h2
    rw [if_pos e1, q1, Option.bind_some]
    exact ⟨_, _, _, _, _, _, _, _, _, _, rfl, q2.2, Or.inr ⟨rfl, rfl, rfl, tE T n i, nm', nu', [(s, v)], by omega, he.2, ⟨rfl, rfl, ht⟩, rfl, q2, by dsimp only; rw [List.length_append, List.length_singleton]; omega, hnu, ty_unit h6 (by omega) (by omega) ho, hC⟩⟩
  · obtain ⟨arg', op', q1, q2⟩ := emits_n (s := s) (v := v) (x1 := 1) (x2 := x2) hd (by omega) (by rw [e2]; rfl) h2
    rw [if_neg (by rw [e1]; exact one_ne), q1, Option.bind_some]
    exact ⟨_, _, _, _, _, _, _, _, _, _, rfl, q2.2, Or.inr ⟨rfl, rfl, rfl, tE T n i, nm', nu', [(s, v)], by omega, he.2, ⟨rfl, rfl, ht⟩, rfl, q2, by dsimp only; rw [List.length_append, List.length_singleton]; omega, hnu, ty_unit h6 (by omega) (by omega) ho, hC⟩⟩
end UN
