/-! through: the orders of a set, both sides -/
theorem okL_step {n k : Nat} {l : List Nat} (h : okL n (k + 1) l = true) : ∃ b r, F_X12_nextRow (nI n) (rowOf l) = some (b, r) ∧ (b = 0 ∨ ((∀ i, i < n → r i = rowOf ((List.range n).map fun i => (r i).toNatClampNeg) i ∧ ((List.range n).map fun i => (r i).toNatClampNeg).getD i 0 < 6) ∧ okL n k ((List.range n).map fun i => (r i).toNatClampNeg) = true)) := by
  rw [okL] at h
  rcases hx : F_X12_nextRow (nI n) (rowOf l) with _ | ⟨b, r⟩
  · rw [hx] at h; cases h
  · rw [hx] at h
    dsimp only at h
    refine ⟨b, r, rfl, ?_⟩
    by_cases c : b = 0
    · exact Or.inl c
    · rw [if_neg c, Bool.and_eq_true, List.all_eq_true] at h
      refine Or.inr ⟨fun i hi => ?_, h.2⟩
      have := h.1 i (List.mem_range.mpr hi)
      rw [Bool.and_eq_true, decide_eq_true_iff, decide_eq_true_iff] at this
      have e : ((List.range n).map fun i => (r i).toNatClampNeg).getD i 0 = (r i).toNatClampNeg := by
        rw [List.getD_eq_getElem?_getD, List.getElem?_map, List.getElem?_range hi]
        rfl
      unfold rowOf
      rw [e]
      exact this
/-- a row that holds a list of motions -/
def Hol (n : Nat) (l : List Nat) (r : Nat → Int32) : Prop := Alk n (rowOf l) r ∧ ∀ i, i < n → l.getD i 0 < 6
theorem Hol.mot {n : Nat} {l : List Nat} {r : Nat → Int32} (h : Hol n l r) : Mot n r (fun j => l.getD j 0) := fun j hj => ⟨(h.1 j hj).symm, h.2 j hj⟩
theorem Alk.symm {n : Nat} {r r2 : Nat → Int32} (h : Alk n r r2) : Alk n r2 r := fun j hj => (h j hj).symm
theorem Alk.trans {n : Nat} {r r2 r3 : Nat → Int32} (h : Alk n r r2) (h2 : Alk n r2 r3) : Alk n r r3 := fun j hj => (h j hj).trans (h2 j hj)
theorem Alk.refl {n : Nat} {r : Nat → Int32} : Alk n r r := fun _ _ => rfl
/-- one step on both sides: the end on both, or the next order on both -/
theorem step_both {n k : Nat} (h1 : 1 ≤ n) (hn : n ≤ 6) {l : List Nat} (h : okL n (k + 1) l = true) {r r2 : Nat → Int32} (hr : Hol n l r) (hr2 : Hol n l r2) :
    (∃ q q2, F_X4_nextOrder (nI n) r = some (0, q) ∧ F_X12_nextRow (nI n) r2 = some (0, q2)) ∨
    (∃ l' q q2, F_X4_nextOrder (nI n) r = some (1, q) ∧ F_X12_nextRow (nI n) r2 = some (1, q2) ∧ Hol n l' q ∧ Hol n l' q2 ∧ okL n k l' = true) := by
  obtain ⟨b, s, e1, e2⟩ := okL_step h
  obtain ⟨b1, q1, s1, a1, a2, a3, a4⟩ := next_both h1 hn (hr.1.symm)
  obtain ⟨b2, s2, q2, c1, c2, c3, c4⟩ := next_both h1 hn hr2.1
  obtain ⟨b3, s3, s4, d1, d2, d3, d4⟩ := next_both h1 hn (Alk.refl (n := n) (r := rowOf l))
  rw [e1] at a2 d2
  cases a2
  cases d2
  rw [c1] at d1
  cases d1
  rcases e2 with q | ⟨q1', q2'⟩
  · subst q
    exact Or.inl ⟨_, _, a1, c2⟩
  · rcases a4 with q | q
    · subst q; exact Or.inl ⟨_, _, a1, c2⟩
    · subst q
      right
      have hs : Alk n (rowOf ((List.range n).map fun i => (s i).toNatClampNeg)) s := fun i hi => (q1' i hi).1.symm
      have h6 : ∀ i, i < n → ((List.range n).map fun i => (s i).toNatClampNeg).getD i 0 < 6 := fun i hi => (q1' i hi).2
      exact ⟨_, _, _, a1, c2, ⟨hs.trans a3.symm, h6⟩, ⟨(hs.trans d3.symm).trans c3, h6⟩, q2'⟩
section TH
variable {B : Nat → Nat → Bool} {be btr : Nat → Int32} {n : Nat}
variable {arg cm hw op blo day mem tld wei wi rb st rw0 : Nat → Int32} {M' NN' vd vk al ma told we : Int32}
theorem count_both (hB : ∀ a, a < 6 → ∀ i, i < 32 → bt (be a) i = (decide (i < 6) && B a i)) (hB2 : ∀ a i, a < 6 → i < 6 → btr (6 * a + i) = if B a i = true then 1 else 0) (hB0 : ∀ a, B a a = false) (h1 : 1 ≤ n) (hn : n ≤ 6) (x sight x5 : Int32) :
    ∀ (k : Nat) (l : List Nat) (f1 f2 c : Nat) (fst : Int32) (le le2 r r2 : Nat → Int32), okL n k l = true → k < f1 → k < f2 → k ≤ 720 → c + k ≤ 720 → Hol n l r → Hol n l r2 →
      ∃ tot fst' o1 o2, F_X4_ordersFor_13 x sight be f1 (nI c) 1 (nI (720 - k)) (nI n) le r = some (nI tot, o1) ∧ (0 < c → fst' = fst) ∧
        F_X12_through_123 x sight x5 M' NN' vd vk arg cm hw op blo day mem tld wei wi f2 (nI c) fst 1 al ma (nI n) told we btr rb le2 r2 st rw0 = some (if x5 = 0 then nI tot else fst', o2) := by
  intro k
  induction k with
  | zero => intro l f1 f2 c fst le le2 r r2 h; rw [okL] at h; cases h
  | succ k ih =>
    intro l f1 f2 c fst le le2 r r2 h g1 g2 hk hc hr hr2
    obtain ⟨f1, rfl⟩ : ∃ g, f1 = g + 1 + 1 := ⟨f1 - 2, by omega⟩
    obtain ⟨f2, rfl⟩ : ∃ g, f2 = g + 1 + 1 := ⟨f2 - 2, by omega⟩
    obtain ⟨le', o1⟩ := outcome_s hB h1 hn hr.mot sight le
    obtain ⟨le2', o2⟩ := ends_s hB2 hB0 h1 hn hr2.mot sight le2
    obtain ⟨dv, dv1, dv2⟩ := digits_same hn (hr.1.symm.trans hr2.1)
    rw [F_X4_ordersFor_13, F_X12_through_123, if_neg (show ¬ (720 : Int32) ≤ nI (720 - (k + 1)) from nI_ge (b := 720) (by omega) (by omega)), if_neg one_ne, if_neg one_ne, o1, o2, Option.bind_some, Option.bind_some]
    dsimp only
    have e720 : nI (720 - (k + 1)) + 1 = nI (720 - k) := by rw [nI_1]; congr 1; omega
    rw [e720]
    rcases step_both h1 hn h hr hr2 with ⟨q, q2, s1, s2⟩ | ⟨l', q, q2, s1, s2, s3, s4, s5⟩
    · rw [s1, s2]
      by_cases hit : nI (outc B (fun j => l.getD j 0) n sight) = x
      · rw [if_pos hit, if_pos hit, Option.bind_some]
        dsimp only
        unfold F_X12_through_149
        rw [s2]
        have fin1 : ∀ z, F_X4_ordersFor_13 x sight be (f1 + 1) (nI c + 1) 0 z (nI n) le' q = some (nI (c + 1), nI n, le', q) := by
          intro z
          rw [F_X4_ordersFor_13, nI_1]
          by_cases y : (720 : Int32) ≤ z
          · rw [if_pos y]
          · rw [if_neg y, if_pos rfl]
        have fin2 : ∀ fs, F_X12_through_123 x sight x5 M' NN' vd vk arg cm hw op blo day mem tld wei wi (f2 + 1) (nI c + 1) fs 0 al ma (nI n) told we btr rb le2' q2 st rw0 = some (if x5 = 0 then nI (c + 1) else fs, al, ma, nI n, told, we, btr, rb, le2', q2, st, rw0) := by
          intro fs
          rw [F_X12_through_123, if_pos rfl, nI_1]
          by_cases y : x5 = 0
          · rw [if_pos y, if_pos y]
          · rw [if_neg y, if_neg y]
        rw [fin1]
        by_cases c0 : nI c = 0
        · rw [if_pos c0, dv2, Option.bind_some, Option.bind_some]
          dsimp only
          rw [fin2]
          refine ⟨c + 1, dv, _, _, rfl, fun hp => absurd c0 (nI_ne0 hp (by omega)), rfl⟩
        · rw [if_neg c0, Option.bind_some]
          dsimp only
          rw [fin2]
          exact ⟨c + 1, fst, _, _, rfl, fun _ => rfl, rfl⟩
      · rw [if_neg hit, if_neg hit, Option.bind_some, Option.bind_some]
        dsimp only
        have fin1 : ∀ z, F_X4_ordersFor_13 x sight be (f1 + 1) (nI c) 0 z (nI n) le' q = some (nI c, nI n, le', q) := by
          intro z
          rw [F_X4_ordersFor_13]
          by_cases y : (720 : Int32) ≤ z
          · rw [if_pos y]
          · rw [if_neg y, if_pos rfl]
        rw [fin1, F_X12_through_123, if_pos rfl]
        refine ⟨c, fst, _, (al, ma, nI n, told, we, btr, rb, le2', q2, st, rw0), rfl, fun _ => rfl, ?_⟩
        by_cases y : x5 = 0
        · rw [if_pos y, if_pos y]
        · rw [if_neg y, if_neg y]
    · rw [s1, s2]
      by_cases hit : nI (outc B (fun j => l.getD j 0) n sight) = x
      · rw [if_pos hit, if_pos hit, Option.bind_some]
        dsimp only
        unfold F_X12_through_149
        rw [s2, nI_1]
        by_cases c0 : nI c = 0
        · rw [if_pos c0, dv2, Option.bind_some, Option.bind_some]
          dsimp only
          obtain ⟨tot, fst', w1, w2, w3, w4, w5⟩ := ih l' (f1 + 1) (f2 + 1) (c + 1) dv le' le2' q q2 s5 (by omega) (by omega) (by omega) (by omega) s3 s4
          exact ⟨tot, fst', w1, w2, w3, fun hp => absurd c0 (nI_ne0 hp (by omega)), w5⟩
        · rw [if_neg c0, Option.bind_some]
          dsimp only
          obtain ⟨tot, fst', w1, w2, w3, w4, w5⟩ := ih l' (f1 + 1) (f2 + 1) (c + 1) fst le' le2' q q2 s5 (by omega) (by omega) (by omega) (by omega) s3 s4
          exact ⟨tot, fst', w1, w2, w3, fun _ => w4 (by omega), w5⟩
      · rw [if_neg hit, if_neg hit, Option.bind_some, Option.bind_some]
        dsimp only
        exact ih l' (f1 + 1) (f2 + 1) c fst le' le2' q q2 s5 (by omega) (by omega) (by omega) (by omega) s3 s4
theorem first_both (hB : ∀ a, a < 6 → ∀ i, i < 32 → bt (be a) i = (decide (i < 6) && B a i)) (hB2 : ∀ a i, a < 6 → i < 6 → btr (6 * a + i) = if B a i = true then 1 else 0) (hB0 : ∀ a, B a a = false) (h1 : 1 ≤ n) (hn : n ≤ 6) (x sight x5 : Int32) (hx5 : ¬ x5 = 0) :
    ∀ (k : Nat) (l : List Nat) (f1 f2 : Nat) (le le2 r r2 : Nat → Int32), okL n k l = true → k < f1 → k < f2 → k ≤ 720 → Hol n l r → Hol n l r2 →
      ∃ v o1 o2, F_X4_firstFor_10 x sight be f1 1 (nI (720 - k)) (nI n) le r = some (v, o1) ∧
        F_X12_through_123 x sight x5 M' NN' vd vk arg cm hw op blo day mem tld wei wi f2 0 (-1) 1 al ma (nI n) told we btr rb le2 r2 st rw0 = some (v, o2) := by
  intro k
  induction k with
  | zero => intro l f1 f2 le le2 r r2 h; rw [okL] at h; cases h
  | succ k ih =>
    intro l f1 f2 le le2 r r2 h g1 g2 hk hr hr2
    obtain ⟨f1, rfl⟩ : ∃ g, f1 = g + 1 + 1 := ⟨f1 - 2, by omega⟩
    obtain ⟨f2, rfl⟩ : ∃ g, f2 = g + 1 + 1 := ⟨f2 - 2, by omega⟩
    by_cases hit : nI (outc B (fun j => l.getD j 0) n sight) = x
    · -- the class answers now; the reference keeps what it has
      obtain ⟨le', o1⟩ := outcome_s hB h1 hn hr.mot sight le
      obtain ⟨le2', o2⟩ := ends_s hB2 hB0 h1 hn hr2.mot sight le2
      obtain ⟨dv, dv1, dv2⟩ := digits_same hn (hr.1.symm.trans hr2.1)
      rw [F_X4_firstFor_10, if_neg (show ¬ (720 : Int32) ≤ nI (720 - (k + 1)) from nI_ge (b := 720) (by omega) (by omega)), if_neg one_ne, o1, Option.bind_some]
      dsimp only
      rw [if_pos hit, dv1, Option.bind_some]
      refine ⟨dv, (nI n, le', r), ?_⟩
      rw [F_X12_through_123, if_neg one_ne, o2, Option.bind_some]
      dsimp only
      rw [if_pos hit, if_pos rfl, dv2, Option.bind_some]
      unfold F_X12_through_149
      rcases step_both h1 hn h hr hr2 with ⟨q, q2, s1, s2⟩ | ⟨l', q, q2, s1, s2, s3, s4, s5⟩
      · rw [s2, Option.bind_some]
        dsimp only
        rw [F_X12_through_123, if_pos rfl, if_neg hx5]
        exact ⟨_, rfl, rfl⟩
      · rw [s2, Option.bind_some]
        dsimp only
        obtain ⟨tot, fst', w1, w2, w3, w4, w5⟩ := count_both (M' := M') (NN' := NN') (vd := vd) (vk := vk) (al := al) (ma := ma) (told := told) (we := we) (arg := arg) (cm := cm) (hw := hw) (op := op) (blo := blo) (day := day) (mem := mem) (tld := tld) (wei := wei) (wi := wi) (rb := rb) (st := st) (rw0 := rw0) hB hB2 hB0 h1 hn x sight x5 k l' FU (f2 + 1) 1 dv le' le2' q q2 s5 (by unfold FU; omega) (by omega) (by omega) (by omega) s3 s4
        rw [if_neg hx5, w4 (by omega)] at w5
        have w5' := w5
        rw [show nI 1 = (0 : Int32) + 1 from rfl] at w5'
        exact ⟨w2, rfl, w5'⟩
    · obtain ⟨le', o1⟩ := outcome_s hB h1 hn hr.mot sight le
      obtain ⟨le2', o2⟩ := ends_s hB2 hB0 h1 hn hr2.mot sight le2
      have e720 : nI (720 - (k + 1)) + 1 = nI (720 - k) := by rw [nI_1]; congr 1; omega
      rw [F_X4_firstFor_10, F_X12_through_123, if_neg (show ¬ (720 : Int32) ≤ nI (720 - (k + 1)) from nI_ge (b := 720) (by omega) (by omega)), if_neg one_ne, if_neg one_ne, o1, o2, Option.bind_some, Option.bind_some]
      dsimp only
      rw [if_neg hit, if_neg hit, e720]
      rcases step_both h1 hn h hr hr2 with ⟨q, q2, s1, s2⟩ | ⟨l', q, q2, s1, s2, s3, s4, s5⟩
      · rw [s1, s2, Option.bind_some, Option.bind_some]
        dsimp only
        rw [F_X4_firstFor_10, F_X12_through_123, if_pos rfl, if_neg hx5]
        by_cases y : (720 : Int32) ≤ nI (720 - k)
        · rw [if_pos y]; exact ⟨_, _, _, rfl, rfl⟩
        · rw [if_neg y, if_pos rfl]; exact ⟨_, _, _, rfl, rfl⟩
      · rw [s1, s2, Option.bind_some, Option.bind_some]
        dsimp only
        exact ih l' (f1 + 1) (f2 + 1) le' le2' q q2 s5 (by omega) (by omega) (by omega) s3 s4
end TH
/-! the first order -/
theorem setL_le (q : Nat) : ∀ x, (setL q x).length ≤ x := by
  intro x
  induction x with
  | zero => exact Nat.le_refl _
  | succ x ih =>
    rw [setL]
    by_cases c : q.testBit x = true
    · rw [if_pos c, List.length_append]; simp only [List.length_cons, List.length_nil]; omega
    · rw [if_neg c]; omega
theorem setL_mem (q : Nat) : ∀ x v, v ∈ setL q x → v < x := by
  intro x
  induction x with
  | zero => intro v h; rw [setL] at h; cases h
  | succ x ih =>
    intro v h
    rw [setL] at h
    by_cases c : q.testBit x = true
    · rw [if_pos c, List.mem_append] at h
      rcases h with h | h
      · have := ih v h; omega
      · rw [List.mem_singleton] at h; omega
    · rw [if_neg c] at h
      have := ih v h; omega
theorem setL_pos (q : Nat) {v : Nat} (hv : q.testBit v = true) : ∀ x, v < x → 0 < (setL q x).length := by
  intro x
  induction x with
  | zero => intro h; omega
  | succ x ih =>
    intro h
    rw [setL]
    by_cases c : q.testBit x = true
    · rw [if_pos c, List.length_append]; simp
    · rw [if_neg c]
      by_cases e : v = x
      · subst e; exact absurd hv c
      · exact ih (by omega)
theorem setL_snoc {L : List Nat} {r : Nat → Int32} {x : Nat} (h : Alk L.length (rowOf L) r) : Alk (L ++ [x]).length (rowOf (L ++ [x])) (upd r L.length (nI x)) := by
  intro j hj
  simp only [List.length_append, List.length_cons, List.length_nil] at hj
  unfold rowOf
  by_cases e : j = L.length
  · subst e
    rw [upd_self, List.getD_eq_getElem?_getD, List.getElem?_concat_length]; rfl
  · have hlt : j < L.length := by omega
    rw [upd_ne _ _ e, ← h j hlt]
    unfold rowOf
    rw [List.getD_eq_getElem?_getD, List.getD_eq_getElem?_getD, List.getElem?_append_left hlt]
theorem firstOrder_7 {q : Nat} : ∀ (fuel x : Nat) (r : Nat → Int32), 6 - x < fuel → x ≤ 6 → Alk (setL q x).length (rowOf (setL q x)) r →
    ∃ r', F_X4_firstOrder_7 (nI q) fuel (nI x) (nI (setL q x).length) r = some (if (setL q 6).length = 0 then 0 else 1, nI (setL q 6).length, r') ∧ Alk (setL q 6).length (rowOf (setL q 6)) r' := by
  intro fuel
  induction fuel with
  | zero => intro x r h; omega
  | succ n ih =>
    intro x r h hx hA
    rw [F_X4_firstOrder_7]
    rcases Nat.lt_or_ge x 6 with hlt | hge
    · have hl := setL_le q x
      rw [if_neg (show ¬ (6 : Int32) ≤ nI x from nI_ge (b := 6) hlt (by omega)), has_s _ (show x < 32 by omega), Option.bind_some, nI_1, nI_1, gin_n (show (setL q x).length < 6 by omega) (by omega), nI_clamp (by omega), bt_nI (by omega)]
      by_cases c : q.testBit x = true
      · have hA' := setL_snoc (x := x) hA
        have e : setL q (x + 1) = setL q x ++ [x] := by rw [setL, if_pos c]
        rw [← e] at hA'
        have next := ih (x + 1) _ (by omega) (by omega) hA'
        rw [e, List.length_append] at next
        rw [if_pos c, if_neg one_ne, show (6 : Int32) = nI 6 from rfl, inside_n (by omega) (by omega), if_pos (show (setL q x).length < 6 by omega), Option.bind_some, if_neg one_ne]
        exact next
      · have e : setL q (x + 1) = setL q x := by rw [setL, if_neg c]
        have next := ih (x + 1) r (by omega) (by omega) (by rw [e]; exact hA)
        rw [e] at next
        rw [if_neg c, if_pos rfl]
        exact next
    · have e : x = 6 := by omega
      subst e
      have hl := setL_le q 6
      rw [if_pos (show (6 : Int32) ≤ nI 6 by decide)]
      by_cases c : (setL q 6).length = 0
      · rw [if_pos (by rw [c]; decide), if_pos c]; exact ⟨r, rfl, hA⟩
      · rw [if_neg (nI_nle (by omega) (by omega)), if_neg c]; exact ⟨r, rfl, hA⟩
theorem through_67 {q : Nat} {x3 x4 x5 M' NN' vd vk al ma told we : Int32} {arg cm hw op blo day mem tld wei wi btr rb le st rw0 : Nat → Int32} : ∀ (fuel x : Nat) (r : Nat → Int32), 6 - x < fuel → x ≤ 6 → Alk (setL q x).length (rowOf (setL q x)) r →
    ∃ r', F_X12_through_67 (nI q) x3 x4 x5 M' NN' vd vk arg cm hw op blo day mem tld wei wi fuel (nI x) al ma (nI (setL q x).length) told we btr rb le r st rw0 = F_X12_through_123 x3 x4 x5 M' NN' vd vk arg cm hw op blo day mem tld wei wi FU 0 (-1) 1 al ma (nI (setL q 6).length) told we btr rb le r' st rw0 ∧ Alk (setL q 6).length (rowOf (setL q 6)) r' := by
  intro fuel
  induction fuel with
  | zero => intro x r h; omega
  | succ n ih =>
    intro x r h hx hA
    rw [F_X12_through_67]
    rcases Nat.lt_or_ge x 6 with hlt | hge
    · have hl := setL_le q x
      rw [if_neg (show ¬ (6 : Int32) ≤ nI x from nI_ge (b := 6) hlt (by omega)), isOf_s _ (show x < 32 by omega), Option.bind_some, nI_1, nI_1, gin_n (show (setL q x).length < 6 by omega) (by omega), nI_clamp (by omega), bt_nI (by omega)]
      by_cases c : q.testBit x = true
      · have hA' := setL_snoc (x := x) hA
        have e : setL q (x + 1) = setL q x ++ [x] := by rw [setL, if_pos c]
        rw [← e] at hA'
        have next := ih (x + 1) _ (by omega) (by omega) hA'
        rw [e, List.length_append] at next
        rw [if_pos c, if_neg one_ne]
        exact next
      · have e : setL q (x + 1) = setL q x := by rw [setL, if_neg c]
        have next := ih (x + 1) r (by omega) (by omega) (by rw [e]; exact hA)
        rw [e] at next
        rw [if_neg c, if_pos rfl]
        exact next
    · have e : x = 6 := by omega
      subst e
      rw [if_pos (show (6 : Int32) ≤ nI 6 by decide)]
      exact ⟨r, rfl, hA⟩
section TB3
variable {mem day tld blo wei : Nat → Int32} {d k : Int32} {N M : Nat}
theorem through_both (hM : M ≤ 10) (hn : N ≤ 200) (hmem : ∀ i, i < N → ∃ mi, mi < M ∧ mem i = nI mi) {sin sal : Int32} {mo sw : Nat → Int32} (S : Seated mem day tld blo wei d k N sin sal mo sw) {L : List (Nat × Nat)} {codes fr : Int32} {code bits cm op arg : Nat → Int32} {x y z x4 x5 : Int32} (R : ∀ r, r < 4 → x = nI r → RuleIs L codes code r cm op arg) (hfr : ¬ fr = 0 → Truth sin sal mo sw L bits 1024) {fi ra hw wi : Nat → Int32} (hW : WishOk fi ra hw wi) (al ma we told mcnt mot : Int32) (cst be le or_ st rb rw0 btr le2 row : Nat → Int32) :
    ∃ a o1, F_X11_through x y z x4 x5 mcnt be fi le or_ ra codes code cst fr bits sal sin mo sw = some (a, o1) ∧ ∃ o2, F_X12_through x y z x4 x5 al ma (nI M) mot (nI N) told d k we arg btr rb cm hw le2 op row blo day mem tld wei st rw0 wi = some (a, o2) := by
  have hsin : ∀ i, 10 ≤ i → i < 32 → bt sin i = false := by rw [S.1]; exact sAll_hi (Nat.le_refl _)
  unfold F_X11_through F_X12_through
  rw [isRule_s, isMotion_s, inside_s x, inside_in (a := 63) (by decide) y, inside_in (a := 1) (by decide) x5, isIn_s, isIn_s, isIn_s, inside_s z]
  simp only [Option.bind_some]
  by_cases hx : 0 ≤ x ∧ x < 4
  rotate_left
  · simp only [if_neg hx, if_true]
    exact ⟨_, _, rfl, _, rfl⟩
  simp only [if_pos hx, if_neg one_ne]
  obtain ⟨r, hr31, er⟩ := nI_of (Int32.not_lt.mpr hx.1)
  subst er
  have hr : r < 4 := (nI_ltI (b := 4) hr31 (by omega)).mp hx.2
  have hR := R r hr rfl
  by_cases hy : 0 ≤ y ∧ y ≤ 63
  rotate_left
  · have hy2 : ¬ (1 ≤ y ∧ y ≤ 63) := fun z => hy ⟨Int32.le_trans (by decide) z.1, z.2⟩
    simp only [if_neg hy, if_neg hy2, if_true]
    exact ⟨_, _, rfl, _, rfl⟩
  obtain ⟨q, hq, eq⟩ := nI_of2 (x := y) (M := 63) (n := 63) (by decide) (Int32.not_lt.mpr hy.1) hy.2
  subst eq
  simp only [if_pos hy, if_neg one_ne]
  by_cases hz : 0 ≤ z ∧ z < 6
  rotate_left
  · simp only [if_neg hz, if_true]
    by_cases c : 1 ≤ nI q ∧ nI q ≤ 63
    · simp only [if_pos c, if_neg one_ne]; exact ⟨_, _, rfl, _, rfl⟩
    · simp only [if_neg c, if_true]; exact ⟨_, _, rfl, _, rfl⟩
  obtain ⟨v, hv31, ev⟩ := nI_of (Int32.not_lt.mpr hz.1)
  subst ev
  have hv : v < 6 := (nI_ltI (b := 6) hv31 (by omega)).mp hz.2
  simp only [if_pos hz, if_neg one_ne, has_s _ (show v < 32 by omega), isOf_s _ (show v < 32 by omega), Option.bind_some, bt_nI (show v < 32 by omega)]
  by_cases hb : q.testBit v = true
  rotate_left
  · simp only [if_neg hb, if_true]
    by_cases c : 1 ≤ nI q ∧ nI q ≤ 63
    · simp only [if_pos c, if_neg one_ne]; exact ⟨_, _, rfl, _, rfl⟩
    · simp only [if_neg c, if_true]; exact ⟨_, _, rfl, _, rfl⟩
  have q0 : 0 < q := by
    rcases Nat.eq_zero_or_pos q with e | e
    · subst e; simp at hb
    · exact e
  simp only [if_pos hb, if_neg one_ne, if_pos (show (1 : Int32) ≤ nI q ∧ nI q ≤ 63 from ⟨nI_le (a := 1) (by omega) (by omega), hy.2⟩)]
  by_cases h5 : 0 ≤ x5 ∧ x5 ≤ 1
  rotate_left
  · simp only [if_neg h5, if_true]
    exact ⟨_, _, rfl, _, rfl⟩
  simp only [if_pos h5, if_neg one_ne]
  obtain ⟨st1, be1, c1, c2⟩ := compare_s (sal := sal) (mo := mo) (sw := sw) (fi := fi) (ra := ra) hR.1 hsin hR.2.2.1 fr hfr cst be
  obtain ⟨bt1, st2, f1, f2⟩ := findBeats_s hM hn hmem S hr hR hW al ma we btr st rb rw0
  rw [gin_n hr (by omega), hR.2.1, c1, f1, Option.bind_some, Option.bind_some]
  dsimp only
  have hlen := setL_le q 6
  have hpos := setL_pos q hb 6 hv
  have hok := okL_all q0 (by omega)
  have h6 : ∀ i, i < (setL q 6).length → (setL q 6).getD i 0 < 6 := fun i hi => by
    rw [List.getD_eq_getElem?_getD, List.getElem?_eq_getElem hi]
    exact setL_mem q 6 _ (List.getElem_mem hi)
  obtain ⟨r1, g1, g2⟩ := firstOrder_7 (q := q) FU 0 or_ (by unfold FU; omega) (by omega) (fun j hj => by rw [show (setL q 0).length = 0 from rfl] at hj; omega)
  rw [nI_0, show (setL q 0).length = 0 from rfl, nI_0, if_neg (by omega)] at g1
  obtain ⟨r2, k1, k2⟩ := through_67 (q := q) (x3 := nI v) (x4 := x4) (x5 := x5) (M' := nI M) (NN' := nI N) (vd := d) (vk := k) (al := sin) (ma := sMany mem day tld blo d k N M) (told := 0) (we := sSum mem day tld blo wei d k N M) (arg := arg) (cm := cm) (hw := hw) (op := op) (blo := blo) (day := day) (mem := mem) (tld := tld) (wei := wei) (wi := wi) (btr := bt1) (rb := (fun j => if j < M then sB mem day tld blo d k N j else rb j)) (le := le2) (st := st2) (rw0 := (fun j => if j < M then sW mem day tld blo wei d k N j else rw0 j)) FU 0 row (by unfold FU; omega) (by omega) (fun j hj => by rw [show (setL q 0).length = 0 from rfl] at hj; omega)
  rw [nI_0, show (setL q 0).length = 0 from rfl, nI_0] at k1
  rw [k1]
  unfold F_X4_ordersFor F_X4_firstFor F_X4_firstOrder
  rw [g1, Option.bind_some, Option.bind_some]
  dsimp only
  by_cases h0 : x5 = 0
  · rw [if_pos h0]
    obtain ⟨tot, fst', w1, w2, w3, w4, w5⟩ := count_both (M' := nI M) (NN' := nI N) (vd := d) (vk := k) (al := sin) (ma := sMany mem day tld blo d k N M) (told := 0) (we := sSum mem day tld blo wei d k N M) (arg := arg) (cm := cm) (hw := hw) (op := op) (blo := blo) (day := day) (mem := mem) (tld := tld) (wei := wei) (wi := wi) (rb := (fun j => if j < M then sB mem day tld blo d k N j else rb j)) (st := st2) (rw0 := (fun j => if j < M then sW mem day tld blo wei d k N j else rw0 j)) c2 f2 bts_self hpos hlen (nI v) x4 x5 720 (setL q 6) FU FU 0 (-1) le le2 r1 r2 hok (by unfold FU; omega) (by unfold FU; omega) (by omega) (by omega) ⟨g2, h6⟩ ⟨k2, h6⟩
    rw [show 720 - 720 = 0 from rfl, nI_0] at w3
    rw [nI_0, if_pos h0] at w5
    rw [w3, w5, Option.bind_some]
    exact ⟨_, _, rfl, _, rfl⟩
  · rw [if_neg h0]
    obtain ⟨w, w1, w2, w3, w5⟩ := first_both (M' := nI M) (NN' := nI N) (vd := d) (vk := k) (al := sin) (ma := sMany mem day tld blo d k N M) (told := 0) (we := sSum mem day tld blo wei d k N M) (arg := arg) (cm := cm) (hw := hw) (op := op) (blo := blo) (day := day) (mem := mem) (tld := tld) (wei := wei) (wi := wi) (rb := (fun j => if j < M then sB mem day tld blo d k N j else rb j)) (st := st2) (rw0 := (fun j => if j < M then sW mem day tld blo wei d k N j else rw0 j)) c2 f2 bts_self hpos hlen (nI v) x4 x5 h0 720 (setL q 6) FU FU le le2 r1 r2 hok (by unfold FU; omega) (by unfold FU; omega) (by omega) ⟨g2, h6⟩ ⟨k2, h6⟩
    rw [show 720 - 720 = 0 from rfl, nI_0] at w3
    rw [w3, w5, Option.bind_some]
    exact ⟨_, _, rfl, _, rfl⟩
end TB3
