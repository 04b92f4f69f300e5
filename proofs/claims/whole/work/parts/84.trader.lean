/-! trade: the class's trader -/
theorem fig_mono (x : Int32) : ∀ (n m : Nat) (a b v : Int32), F_X10_figureOf_5 x n a b = some v → F_X10_figureOf_5 x (n + m) a b = some v := by
  intro n
  induction n with
  | zero => intro m a b v h; rw [F_X10_figureOf_5] at h; cases h
  | succ n ih =>
    intro m a b v h
    rw [F_X10_figureOf_5] at h
    rw [show n + 1 + m = (n + m) + 1 by omega, F_X10_figureOf_5]
    by_cases c : b < 0
    · rw [if_pos c] at h ⊢; exact h
    · rw [if_neg c] at h ⊢; exact ih m _ _ _ h
set_option maxRecDepth 100000 in
theorem fig_dec : ∀ k, k < 1024 → F_X10_figureOf_5 (nI k) 11 0 9 = some (nI (thr k 10)) := by decide +kernel
theorem figureOf_s {k : Nat} (hk : k < 1024) : F_X10_figureOf (nI k) = some (nI (thr k 10)) := by
  unfold F_X10_figureOf
  have h := fig_mono (nI k) 11 (FU - 11) 0 9 _ (fig_dec k hk)
  rw [show 11 + (FU - 11) = FU by unfold FU; omega] at h
  exact h
/-- those in that carry (b true), or do not -/
def lst (b : Bool) (kin : Nat) (bits : Nat → Int32) (n : Nat) : List Nat := (List.range n).filter (fun q => decide (q &&& kin = q) && (tb bits q == b))
section LS
variable {b : Bool} {kin : Nat} {bits : Nat → Int32}
theorem lst_y {n : Nat} (h1 : n &&& kin = n) (h2 : tb bits n = b) : lst b kin bits (n + 1) = lst b kin bits n ++ [n] := by
  unfold lst
  rw [List.range_succ, List.filter_append]
  congr 1
  simp [List.filter, h1, h2]
theorem lst_n {n : Nat} (h : ¬ (n &&& kin = n ∧ tb bits n = b)) : lst b kin bits (n + 1) = lst b kin bits n := by
  unfold lst
  rw [List.range_succ, List.filter_append]
  have : (List.filter (fun q => decide (q &&& kin = q) && (tb bits q == b)) [n]) = [] := by
    rw [List.filter_eq_nil_iff]
    intro x hx
    rw [List.mem_singleton.mp hx]
    intro c
    rw [Bool.and_eq_true, decide_eq_true_iff] at c
    exact h ⟨c.1, by simpa using c.2⟩
  rw [this, List.append_nil]
theorem lst_mem {n x : Nat} : x ∈ lst b kin bits n ↔ x < n ∧ x &&& kin = x ∧ tb bits x = b := by
  unfold lst
  rw [List.mem_filter, List.mem_range, Bool.and_eq_true, decide_eq_true_iff]
  simp
theorem lst_cut (hk : kin < 1024) : ∀ t, lst b kin bits (kin + 1 + t) = lst b kin bits (kin + 1) := by
  intro t
  induction t with
  | zero => rfl
  | succ t ih =>
    rw [← Nat.add_assoc, lst_n, ih]
    intro c
    have := sub_le c.1
    omega
theorem lst_lt {n i j x y : Nat} (hij : i < j) (hx : (lst b kin bits n)[i]? = some x) (hy : (lst b kin bits n)[j]? = some y) : x < y := by
  have h : (lst b kin bits n).Pairwise (· < ·) := List.Pairwise.filter _ List.pairwise_lt_range
  obtain ⟨h1, e1⟩ := List.getElem?_eq_some_iff.mp hx
  obtain ⟨h2, e2⟩ := List.getElem?_eq_some_iff.mp hy
  have := List.pairwise_iff_getElem.mp h i j h1 h2 hij
  rw [e1, e2] at this
  exact this
theorem lst_len : ∀ n t, (lst b kin bits n).length ≤ (lst b kin bits (n + t)).length := by
  intro n t
  induction t with
  | zero => exact Nat.le_refl _
  | succ t ih =>
    rw [← Nat.add_assoc]
    by_cases c : (n + t) &&& kin = n + t ∧ tb bits (n + t) = b
    · rw [lst_y c.1 c.2, List.length_append]; omega
    · rw [lst_n c]; exact ih
theorem lst_both : ∀ n, (lst true kin bits n).length + (lst false kin bits n).length ≤ n := by
  intro n
  induction n with
  | zero => exact Nat.le_refl _
  | succ n ih =>
    by_cases c : n &&& kin = n
    · cases d : tb bits n
      · rw [lst_y c d, lst_n (b := true) (fun z => by rw [d] at z; cases z.2), List.length_append]
        simp only [List.length_cons, List.length_nil]; omega
      · rw [lst_y c d, lst_n (b := false) (fun z => by rw [d] at z; cases z.2), List.length_append]
        simp only [List.length_cons, List.length_nil]; omega
    · rw [lst_n (b := true) (fun z => c z.1), lst_n (b := false) (fun z => c z.1)]; omega
/-- the rows 'sets' and 'figures' hold a list -/
def RowsL (fi se : Nat → Int32) (L : List Nat) : Prop := ∀ i x, L[i]? = some x → se i = nI x ∧ fi i = nI (thr x 10)
theorem RowsL.snoc {fi se : Nat → Int32} {L : List Nat} {q : Nat} (h : RowsL fi se L) : RowsL (upd fi L.length (nI (thr q 10))) (upd se L.length (nI q)) (L ++ [q]) := by
  intro i x hx
  by_cases e : i = L.length
  · subst e
    rw [List.getElem?_concat_length] at hx
    cases hx
    rw [upd_self, upd_self]; exact ⟨rfl, rfl⟩
  · have hlt : i < L.length := by
      have := (List.getElem?_eq_some_iff.mp hx).1
      rw [List.length_append] at this
      simp only [List.length_cons, List.length_nil] at this
      omega
    rw [upd_ne _ _ e, upd_ne _ _ e]
    rw [List.getElem?_append_left hlt] at hx
    exact h i x hx
theorem list_2 (hk : kin < 1024) (L0 : List Nat) (hL : (L0 ++ lst b kin bits 1024).length ≤ 1024) :
    ∀ (fuel q : Nat) (fi se : Nat → Int32), 1025 - q < fuel → q ≤ kin + 1 → RowsL fi se (L0 ++ lst b kin bits q) →
      ∃ fi' se', F_X10_list_2 (if b = true then 1 else 0) (nI kin) bits fuel (nI q) (nI (L0 ++ lst b kin bits q).length) fi se = some (nI (L0 ++ lst b kin bits 1024).length, fi', se') ∧ RowsL fi' se' (L0 ++ lst b kin bits 1024) := by
  intro fuel
  induction fuel with
  | zero => intro q fi se h; omega
  | succ n ih =>
    intro q fi se h hq hR
    rw [F_X10_list_2]
    rcases Nat.lt_or_ge kin q with hlt | hge
    · have e : q = kin + 1 := by omega
      have hc := lst_cut (b := b) (bits := bits) hk (1024 - (kin + 1))
      rw [show kin + 1 + (1024 - (kin + 1)) = 1024 by omega] at hc
      subst e
      rw [if_pos (nI_lt hlt (by omega)), hc]
      exact ⟨fi, se, rfl, hR⟩
    · have hq1 : q < 1024 := by omega
      rw [if_neg (nI_nlt hge (by omega)), isWithin_s, Option.bind_some, nI_1, at_s hq1, Option.bind_some]
      have skip : ¬ (q &&& kin = q ∧ tb bits q = b) → ∃ fi' se', F_X10_list_2 (if b = true then 1 else 0) (nI kin) bits n (nI (q + 1)) (nI (L0 ++ lst b kin bits q).length) fi se = some (nI (L0 ++ lst b kin bits 1024).length, fi', se') ∧ RowsL fi' se' (L0 ++ lst b kin bits 1024) := by
        intro c
        have next := ih (q + 1) fi se (by omega) (by omega) (by rw [lst_n c]; exact hR)
        rw [lst_n c] at next
        exact next
      by_cases c : (nI q &&& (nI kin ^^^ (-1))) = 0
      · have hw := (win_sub hq1 hk).mp c
        rw [if_pos c, if_neg one_ne]
        by_cases d : tb bits q = b
        · have hl : (L0 ++ lst b kin bits q).length < 1024 := by
            have h1 := lst_len (b := b) (kin := kin) (bits := bits) (q + 1) (1024 - (q + 1))
            rw [show q + 1 + (1024 - (q + 1)) = 1024 by omega, lst_y hw d, List.length_append] at h1
            simp only [List.length_append, List.length_cons, List.length_nil] at h1 hL ⊢
            omega
          rw [if_pos (show (if tb bits q = true then (1 : Int32) else 0) = (if b = true then 1 else 0) by rw [d]), show (1024 : Int32) = nI 1024 from rfl, inside_n (by omega) (by omega), if_pos hl, Option.bind_some, if_neg one_ne, gin_n hl (by omega), figureOf_s hq1, Option.bind_some, gin_n hl (by omega), nI_clamp (by omega), nI_1]
          have hS := hR.snoc (q := q)
          rw [List.append_assoc, ← lst_y hw d] at hS
          have next := ih (q + 1) _ _ (by omega) (by omega) hS
          rw [lst_y hw d, ← List.append_assoc, List.length_append] at next
          exact next
        · rw [if_neg (show ¬ (if tb bits q = true then (1 : Int32) else 0) = (if b = true then 1 else 0) by revert d; cases tb bits q <;> cases b <;> decide)]
          exact skip (fun z => d z.2)
      · rw [if_neg c, if_pos rfl]
        exact skip (fun z => c ((win_sub hq1 hk).mpr z.1))
theorem list_s (hk : kin < 1024) (L0 : List Nat) (hL : (L0 ++ lst b kin bits 1024).length ≤ 1024) (fi se : Nat → Int32) (hR : RowsL fi se L0) :
    ∃ fi' se', F_X10_list (if b = true then 1 else 0) (nI kin) bits (nI L0.length) fi se = some (nI (L0 ++ lst b kin bits 1024).length, fi', se') ∧ RowsL fi' se' (L0 ++ lst b kin bits 1024) := by
  unfold F_X10_list
  have e0 : L0 ++ lst b kin bits 0 = L0 := by rw [show lst b kin bits 0 = [] from rfl, List.append_nil]
  have h := list_2 (b := b) (bits := bits) hk L0 hL FU 0 fi se (by unfold FU; omega) (by omega) (by rw [e0]; exact hR)
  rw [nI_0, e0] at h
  exact h
end LS
/-! the sums that are marked -/
theorem su_hi {k : Nat} (hk : k < 59049) : nI k >>> ((5 : Int32) &&& 31) = nI (k / 32) := by
  rw [pk_shrN (by omega) _ 5 (by decide)]
theorem su_lo {k : Nat} (hk : k < 59049) : nI k &&& 31 = nI (k % 32) := pk_andN (by omega) 5 (by decide)
theorem su_mark {su : Nat → Int32} {k : Nat} : ∀ j, tb (upd su (k / 32) (su (k / 32) ||| ((1 : Int32) <<< (nI (k % 32) &&& 31)))) j = (tb su j || decide (j = k)) := by
  intro j
  have h2 : k % 32 < 32 := Nat.mod_lt _ (by decide)
  unfold tb
  by_cases c : j / 32 = k / 32
  · rw [c, upd_self, b_or, b_one h2 (Nat.mod_lt _ (by decide))]
    congr 1
    exact decide_eq_decide.mpr (by omega)
  · rw [upd_ne _ _ c, decide_eq_false (fun e => c (by rw [e])), Bool.or_false]
section MS
variable {fi : Nat → Int32} {g : Nat → Nat} {c1 n : Nat}
theorem markSums_39 (hn : n ≤ 1024) (hf : ∀ i, i < n → fi i = nI (g i)) (hg : ∀ i, g i ≤ 29524) (P : Nat → Prop) {i : Nat} (cc : Int32) (rec13 : Int32 → (Nat → Int32) → Option (Nat → Int32)) :
    ∀ (fuel j : Nat) (su : Nat → Int32), 1025 - j < fuel → j ≤ n → i < j → (∀ k, k < 59049 → (tb su k = true ↔ P k ∨ ∃ j', i < j' ∧ j' < j ∧ g i + g j' = k)) →
      ∃ su', F_X10_markSums_39 cc (nI n) fi rec13 fuel (nI i) (nI (g i)) (nI j) su = rec13 (nI (i + 1)) su' ∧ (∀ k, k < 59049 → (tb su' k = true ↔ P k ∨ ∃ j', i < j' ∧ j' < n ∧ g i + g j' = k)) := by
  intro fuel
  induction fuel with
  | zero => intro j su h; omega
  | succ f ih =>
    intro j su h hj hji hS
    rw [F_X10_markSums_39]
    rcases Nat.lt_or_ge j n with hlt | hge
    · have g1 := hg i
      have g2 := hg j
      have hk : g i + g j < 59049 := by omega
      rw [if_neg (nI_ge hlt (by omega)), if_neg (show ¬ (1024 : Int32) ≤ nI j from nI_ge (b := 1024) (by omega) (by omega)), gin_n (show j < 1024 by omega) (by omega), nI_clamp (show j < 2 ^ 31 by omega), hf j hlt, nI_add, show (59049 : Int32) = nI 59049 from rfl, inside_n (by omega) (by omega), if_pos hk, Option.bind_some, if_neg one_ne, su_hi hk, su_lo hk, gin_n (show (g i + g j) / 32 < 1846 by omega) (by omega), gin_n (show (g i + g j) / 32 < 1846 by omega) (by omega), nI_clamp (show (g i + g j) / 32 < 2 ^ 31 by omega), nI_1]
      refine ih (j + 1) _ (by omega) (by omega) (by omega) (fun k hk' => ?_)
      rw [su_mark, Bool.or_eq_true, decide_eq_true_iff, hS k hk']
      constructor
      · rintro ((q | ⟨j', a, b, c⟩) | q)
        · exact Or.inl q
        · exact Or.inr ⟨j', a, by omega, c⟩
        · exact Or.inr ⟨j, hji, by omega, q.symm⟩
      · rintro (q | ⟨j', a, b, c⟩)
        · exact Or.inl (Or.inl q)
        · by_cases e : j' = j
          · subst e; exact Or.inr c.symm
          · exact Or.inl (Or.inr ⟨j', a, by omega, c⟩)
    · have e : j = n := by omega
      subst e
      rw [if_pos (nI_le (Nat.le_refl _) (by omega)), nI_1]
      exact ⟨su, rfl, hS⟩
/-- the sums of two from c1 on, the first of them below i0 -/
def MkP (g : Nat → Nat) (c1 n i0 k : Nat) : Prop := ∃ i j, c1 ≤ i ∧ i < i0 ∧ i < j ∧ j < n ∧ g i + g j = k
theorem markSums_13 (hn : n ≤ 1024) (hf : ∀ i, i < n → fi i = nI (g i)) (hg : ∀ i, g i ≤ 29524) (cc : Int32) :
    ∀ (fuel i : Nat) (su : Nat → Int32), 1025 - i < fuel → i ≤ n → c1 ≤ i → (∀ k, k < 59049 → (tb su k = true ↔ MkP g c1 n i k)) →
      ∃ su', F_X10_markSums_13 cc (nI n) fi fuel (nI i) su = some su' ∧ (∀ k, k < 59049 → (tb su' k = true ↔ MkP g c1 n n k)) := by
  intro fuel
  induction fuel with
  | zero => intro i su h; omega
  | succ f ih =>
    intro i su h hi hc hS
    rw [F_X10_markSums_13]
    rcases Nat.lt_or_ge i n with hlt | hge
    · rw [if_neg (nI_ge hlt (by omega)), if_neg (show ¬ (1024 : Int32) ≤ nI i from nI_ge (b := 1024) (by omega) (by omega)), gin_n (show i < 1024 by omega) (by omega), nI_clamp (show i < 2 ^ 31 by omega), hf i hlt, nI_1]
      obtain ⟨su', h1, h2⟩ := markSums_39 hn hf hg (MkP g c1 n i) (i := i) cc (F_X10_markSums_13 cc (nI n) fi f) FU (i + 1) su (by unfold FU; omega) (by omega) (by omega) (fun k hk => by
        rw [hS k hk]
        constructor
        · intro q; exact Or.inl q
        · rintro (q | ⟨j', a, b, c⟩)
          · exact q
          · omega)
      rw [h1]
      refine ih (i + 1) su' (by omega) (by omega) (by omega) (fun k hk => ?_)
      rw [h2 k hk]
      constructor
      · rintro (⟨i', j', a, b, c⟩ | ⟨j', a, b, c⟩)
        · exact ⟨i', j', a, by omega, c⟩
        · exact ⟨i, j', hc, by omega, a, b, c⟩
      · rintro ⟨i', j', a, b, c, d, e⟩
        by_cases q : i' = i
        · subst q; exact Or.inr ⟨j', c, d, e⟩
        · exact Or.inl ⟨i', j', a, by omega, c, d, e⟩
    · have e : i = n := by omega
      subst e
      rw [if_pos (nI_le (Nat.le_refl _) (by omega))]
      exact ⟨su, rfl, hS⟩
theorem markSums_s (hn : n ≤ 1024) (hf : ∀ i, i < n → fi i = nI (g i)) (hg : ∀ i, g i ≤ 29524) (hc : c1 ≤ n) (su : Nat → Int32) :
    ∃ su', F_X10_markSums (nI c1) (nI n) fi su = some su' ∧ (∀ k, k < 59049 → (tb su' k = true ↔ MkP g c1 n n k)) := by
  unfold F_X10_markSums
  rw [fill_ok 0 su (by omega), Option.bind_some]
  refine markSums_13 hn hf hg (nI c1) FU c1 _ (by unfold FU; omega) hc (Nat.le_refl _) (fun k hk => ?_)
  have : tb (fill_row 0 1846 su) k = false := by
    unfold tb fill_row
    rw [if_pos (by omega), b_0]
  rw [this]
  constructor
  · intro q; cases q
  · rintro ⟨i, j, a, b, -⟩; omega
end MS
/-! the first pair -/
theorem bind_id {α : Type} (x : Option α) : x.bind (fun r => some r) = x := by cases x <;> rfl
theorem findPair_29 {bits fi se su : Nat → Int32} {g : Nat → Nat} {c1 i : Nat} (hn : c1 ≤ 1024) (hf : ∀ i, i < c1 → fi i = nI (g i)) (hg : ∀ i, g i ≤ 29524) (cnt : Int32) (tr : Nat → Int32) (rec2 : Int32 → (Nat → Int32) → Option (Nat → Int32)) :
    ∀ (fuel j : Nat), 1025 - j < fuel → j ≤ c1 → i < j → (∀ j', i < j' → j' < j → ¬ tb su (g i + g j') = true) →
      (F_X10_findPair_29 bits (nI c1) cnt fi se su rec2 fuel (nI i) (nI (g i)) (nI j) tr = rec2 (nI (i + 1)) tr ∧ ∀ j', i < j' → j' < c1 → ¬ tb su (g i + g j') = true) ∨
      (∃ j2, i < j2 ∧ j2 < c1 ∧ tb su (g i + g j2) = true ∧ (∀ j', i < j' → j' < j2 → ¬ tb su (g i + g j') = true) ∧ F_X10_findPair_29 bits (nI c1) cnt fi se su rec2 fuel (nI i) (nI (g i)) (nI j) tr = F_X10_findOthers (se i) (se j2) bits tr (nI c1) cnt se) := by
  intro fuel
  induction fuel with
  | zero => intro j h; omega
  | succ f ih =>
    intro j h hj hji hS
    rw [F_X10_findPair_29]
    rcases Nat.lt_or_ge j c1 with hlt | hge
    · have g1 := hg i
      have g2 := hg j
      have hk : g i + g j < 59049 := by omega
      have h32 : (g i + g j) % 32 < 32 := Nat.mod_lt _ (by decide)
      rw [if_neg (nI_ge hlt (by omega)), if_neg (show ¬ (1024 : Int32) ≤ nI j from nI_ge (b := 1024) (by omega) (by omega)), gin_n (show j < 1024 by omega) (by omega), nI_clamp (show j < 2 ^ 31 by omega), nI_clamp (show i < 2 ^ 31 by omega), hf j hlt, nI_add, show (59049 : Int32) = nI 59049 from rfl, inside_n (by omega) (by omega), if_pos hk, Option.bind_some, if_neg one_ne, su_hi hk, su_lo hk, gin_n (show (g i + g j) / 32 < 1846 by omega) (by omega), nI_clamp (show (g i + g j) / 32 < 2 ^ 31 by omega), has_s _ h32, Option.bind_some, nI_1 j, gin_n (show i < 1024 by omega) (by omega), gin_n (show j < 1024 by omega) (by omega), bind_id]
      by_cases c : tb su (g i + g j) = true
      · right
        refine ⟨j, hji, hlt, c, hS, ?_⟩
        have c' : bt (su ((g i + g j) / 32)) ((g i + g j) % 32) = true := c
        rw [if_pos c', if_neg one_ne]
      · have c' : ¬ bt (su ((g i + g j) / 32)) ((g i + g j) % 32) = true := c
        rw [if_neg c', if_pos rfl]
        exact ih (j + 1) (by omega) (by omega) (by omega) (fun j' a b => by
          by_cases e : j' = j
          · subst e; exact c
          · exact hS j' a (by omega))
    · have e : j = c1 := by omega
      subst e
      rw [if_pos (nI_le (Nat.le_refl _) (by omega)), nI_1]
      exact Or.inl ⟨rfl, hS⟩
theorem findPair_2 {bits fi se su : Nat → Int32} {g : Nat → Nat} {c1 : Nat} (hn : c1 ≤ 1024) (hf : ∀ i, i < c1 → fi i = nI (g i)) (hg : ∀ i, g i ≤ 29524) (cnt : Int32) (tr : Nat → Int32) :
    ∀ (fuel i : Nat), 1025 - i < fuel → i ≤ c1 → (∀ i' j', i' < i → i' < j' → j' < c1 → ¬ tb su (g i' + g j') = true) →
      (F_X10_findPair_2 bits (nI c1) cnt fi se su fuel (nI i) tr = some tr ∧ ∀ i' j', i' < j' → j' < c1 → ¬ tb su (g i' + g j') = true) ∨
      (∃ i2 j2, i2 < j2 ∧ j2 < c1 ∧ tb su (g i2 + g j2) = true ∧ (∀ i' j', i' < j' → j' < c1 → (i' < i2 ∨ i' = i2 ∧ j' < j2) → ¬ tb su (g i' + g j') = true) ∧ F_X10_findPair_2 bits (nI c1) cnt fi se su fuel (nI i) tr = F_X10_findOthers (se i2) (se j2) bits tr (nI c1) cnt se) := by
  intro fuel
  induction fuel with
  | zero => intro i h; omega
  | succ f ih =>
    intro i h hi hS
    rw [F_X10_findPair_2]
    rcases Nat.lt_or_ge i c1 with hlt | hge
    · rw [if_neg (nI_ge hlt (by omega)), if_neg (show ¬ (1024 : Int32) ≤ nI i from nI_ge (b := 1024) (by omega) (by omega)), gin_n (show i < 1024 by omega) (by omega), nI_clamp (show i < 2 ^ 31 by omega), hf i hlt, nI_1]
      rcases findPair_29 (bits := bits) (se := se) (su := su) hn hf hg cnt tr (F_X10_findPair_2 bits (nI c1) cnt fi se su f) (i := i) FU (i + 1) (by unfold FU; omega) (by omega) (by omega) (fun j' a b => by omega) with ⟨e, hno⟩ | ⟨j2, a1, a2, a3, a4, e⟩
      · rw [e]
        exact ih (i + 1) (by omega) (by omega) (fun i' j' a b c => by
          by_cases q : i' = i
          · subst q; exact hno j' b c
          · exact hS i' j' (by omega) b c)
      · right
        refine ⟨i, j2, a1, a2, a3, fun i' j' b1 b2 b3 => ?_, e⟩
        rcases b3 with q | ⟨q1, q2⟩
        · exact hS i' j' q b1 b2
        · subst q1; exact a4 j' b1 q2
    · have e : i = c1 := by omega
      subst e
      rw [if_pos (nI_le (Nat.le_refl _) (by omega))]
      exact Or.inl ⟨rfl, fun i' j' a b => hS i' j' (by omega) a b⟩
/-! the others of the first pair -/
theorem or_nI (a b : Nat) : nI a ||| nI b = nI (a ||| b) := by
  apply b_ext
  intro i hi
  rw [b_or, bt_nI hi, bt_nI hi, bt_nI hi, Nat.testBit_or]
theorem xor_nI (a b : Nat) : nI a ^^^ nI b = nI (a ^^^ b) := by
  apply b_ext
  intro i hi
  rw [b_xor, bt_nI hi, bt_nI hi, bt_nI hi, Nat.testBit_xor]
theorem or10 {a b : Nat} (ha : a < 1024) (hb : b < 1024) : a ||| b < 1024 := Nat.or_lt_two_pow (n := 10) ha hb
theorem xor10 {a b : Nat} (ha : a < 1024) (hb : b < 1024) : a ^^^ b < 1024 := Nat.xor_lt_two_pow (n := 10) ha hb
/-- the trade's row -/
def trw (tr : Nat → Int32) (a b c d : Int32) : Nat → Int32 := upd (upd (upd (upd tr 0 a) 1 b) 2 c) 3 d
theorem findOthers_91 {x2 x3 x7 x8 c1 cnt : Int32} {bits se tr : Nat → Int32} : F_X10_findOthers_91 x2 x3 bits c1 cnt se x7 x8 tr = some (trw tr x2 x3 x7 x8) := by
  unfold F_X10_findOthers_91
  rw [show gin (0 : Int32) 4 = gin (nI 0) 4 from rfl, gin_n (by omega) (by omega), show gin (1 : Int32) 4 = gin (nI 1) 4 from rfl, gin_n (by omega) (by omega), show gin (2 : Int32) 4 = gin (nI 2) 4 from rfl, gin_n (by omega) (by omega), show gin (3 : Int32) 4 = gin (nI 3) 4 from rfl, gin_n (by omega) (by omega)]
  rfl
/-- which c is looked for -/
def okc (bits : Nat → Int32) (a b c : Nat) : Prop := c &&& (a ||| b) = c ∧ (a &&& b) &&& c = a &&& b ∧ c < (a &&& b) ||| ((a ^^^ b) &&& (1023 ^^^ c)) ∧ tb bits ((a &&& b) ||| ((a ^^^ b) &&& (1023 ^^^ c))) = false
theorem findOthers_16 {bits se tr : Nat → Int32} {h : Nat → Nat} {a b c1 n : Nat} (hn : n ≤ 1024) (ha : a < 1024) (hb : b < 1024) (hs : ∀ i, c1 ≤ i → i < n → se i = nI (h i) ∧ h i < 1024) (hex : ∃ i, c1 ≤ i ∧ i < n ∧ okc bits a b (h i)) :
    ∀ (fuel i : Nat), 1025 - i < fuel → i ≤ n → c1 ≤ i → (∀ i', c1 ≤ i' → i' < i → ¬ okc bits a b (h i')) →
      ∃ i2, c1 ≤ i2 ∧ i2 < n ∧ okc bits a b (h i2) ∧ (∀ i', c1 ≤ i' → i' < i2 → ¬ okc bits a b (h i')) ∧ F_X10_findOthers_16 (nI a) (nI b) bits (nI c1) (nI n) se fuel (nI (a &&& b)) (nI (a ^^^ b)) (nI i) tr = some (trw tr (nI a) (nI b) (nI (h i2)) (nI (oth a b (h i2)))) := by
  intro fuel
  induction fuel with
  | zero => intro i h; omega
  | succ f ih =>
    intro i hfu hi hc hS
    rw [F_X10_findOthers_16]
    rcases Nat.lt_or_ge i n with hlt | hge
    · obtain ⟨e1, e2⟩ := hs i hc hlt
      have hab : a &&& b < 1024 := and_lt' ha
      have hD : (a &&& b) ||| ((a ^^^ b) &&& (1023 ^^^ h i)) < 1024 := or10 hab (and_lt' (xor10 ha hb))
      rw [if_neg (nI_ge hlt (by omega)), if_neg (show ¬ (1024 : Int32) ≤ nI i from nI_ge (b := 1024) (by omega) (by omega)), gin_n (show i < 1024 by omega) (by omega), nI_clamp (show i < 2 ^ 31 by omega), e1, or_nI, less_nI (xor10 ha hb), or_nI, isWithin_s, isWithin_s, at_s hD, nI_1, findOthers_91]
      simp only [Option.bind_some, win_sub e2 (or10 ha hb), win_sub hab e2]
      have go : ¬ okc bits a b (h i) → ∃ i2, c1 ≤ i2 ∧ i2 < n ∧ okc bits a b (h i2) ∧ (∀ i', c1 ≤ i' → i' < i2 → ¬ okc bits a b (h i')) ∧ F_X10_findOthers_16 (nI a) (nI b) bits (nI c1) (nI n) se f (nI (a &&& b)) (nI (a ^^^ b)) (nI (i + 1)) tr = some (trw tr (nI a) (nI b) (nI (h i2)) (nI (oth a b (h i2)))) := by
        intro hno
        exact ih (i + 1) (by omega) (by omega) (by omega) (fun i' a1 a2 => by
          by_cases q : i' = i
          · subst q; exact hno
          · exact hS i' a1 (by omega))
      by_cases d1 : h i &&& (a ||| b) = h i
      · rw [if_pos d1, if_neg one_ne]
        by_cases d2 : (a &&& b) &&& h i = a &&& b
        · rw [if_pos d2, if_neg one_ne]
          by_cases d3 : h i < (a &&& b) ||| ((a ^^^ b) &&& (1023 ^^^ h i))
          · rw [if_neg (nI_ge d3 (by omega))]
            by_cases d4 : tb bits ((a &&& b) ||| ((a ^^^ b) &&& (1023 ^^^ h i))) = true
            · rw [if_pos d4, if_neg one_ne]
              exact go (fun z => by have := z.2.2.2; rw [d4] at this; cases this)
            · rw [if_neg d4, if_pos rfl]
              refine ⟨i, hc, hlt, ⟨d1, d2, d3, by simpa using d4⟩, hS, ?_⟩
              rw [oth_same]
          · rw [if_pos (nI_le (by omega) (by omega))]
            exact go (fun z => d3 z.2.2.1)
        · rw [if_neg d2, if_pos rfl]
          exact go (fun z => d2 z.2.1)
      · rw [if_neg d1, if_pos rfl]
        exact go (fun z => d1 z.1)
    · obtain ⟨i0, a1, a2, a3⟩ := hex
      exact absurd a3 (hS i0 a1 (by omega))
