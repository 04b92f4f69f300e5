/-! the class's small steps of reading -/
theorem nx_or (a b : Nat) : nI a ||| nI b = nI (a ||| b) := by
  apply b_ext
  intro i hi
  rw [b_or, bt_nI hi, bt_nI hi, bt_nI hi, Nat.testBit_or]
theorem rank_n : ∀ s, s < 32 → F_X8_rank (nI s) = some (nI (rk s)) := by decide +kernel
theorem sum_n : ∀ s, s < 32 → F_X8_isSum (nI s) = some (if dSm s then 1 else 0) := by decide +kernel
theorem cmp_n : ∀ s, s < 32 → F_X8_isComparison (nI s) = some (if dCp s then 1 else 0) := by decide +kernel
theorem rk_le (s : Nat) : rk s ≤ 6 := by
  unfold rk
  repeat' split
  all_goals omega
/-- a row holds a code -/
def CodeIs (code : Nat → Int32) (L : List (Nat × Nat)) : Prop := ∀ j c, L[j]? = some c → code j = nI (c.1 * 16384 + c.2)
theorem CodeIs.snoc {code : Nat → Int32} {L : List (Nat × Nat)} (h : CodeIs code L) (s v : Nat) : CodeIs (upd code L.length (nI (s * 16384 + v))) (L ++ [(s, v)]) := by
  intro j c hj
  by_cases e : j = L.length
  · subst e
    rw [List.getElem?_append_right (Nat.le_refl _), Nat.sub_self] at hj
    cases hj
    rw [upd_self]
  · have hlt : j < L.length := by
      have := (List.getElem?_eq_some_iff.mp hj).1
      rw [List.length_append, List.length_singleton] at this
      omega
    rw [List.getElem?_append_left hlt] at hj
    rw [upd_ne _ _ e]
    exact h j c hj
theorem emit_n {code : Nat → Int32} {L : List (Nat × Nat)} {s v : Nat} {x : Int32} (hs : s < 32) (hv : v < 16384) (hx : (x &&& 16383) = nI v) (hl : L.length < 400) : F_X5_emit (nI s) x (nI L.length) code = some (nI (L ++ [(s, v)]).length, upd code L.length (nI (s * 16384 + v))) := by
  unfold F_X5_emit
  rw [show (400 : Int32) = nI 400 from rfl, inside_n (by omega) (by omega), if_pos hl, Option.bind_some, if_neg one_ne, gin_n hl (by omega), nI_clamp (by omega), hx, pk_shlN (n := s) _ 14 (by decide) (by omega), nx_or, nI_1, List.length_append, List.length_singleton]
  have e : s * 2 ^ 14 ||| v = s * 16384 + v := by
    rw [Nat.mul_comm, ← Nat.two_pow_add_eq_or_of_lt (i := 14) hv s]
  rw [e]
theorem push_n {wa : Nat → Int32} {W : List Nat} {s : Nat} (hW : W.length < 40) (h : onRow wa (W.map nI)) : ∃ wa', F_X5_push (nI s) (nI W.length) wa = some (nI (s :: W).length, wa') ∧ onRow wa' ((s :: W).map nI) := by
  unfold F_X5_push
  rw [show (40 : Int32) = nI 40 from rfl, inside_n (by omega) (by omega), if_pos hW, Option.bind_some, if_neg one_ne, gin_n hW (by omega), nI_clamp (by omega), nI_1]
  exact ⟨_, rfl, by rw [List.map_cons]; exact ⟨by rw [List.length_map, upd_self], onRow_upd (by rw [List.length_map]; exact Nat.le_refl _) h⟩⟩
def opens : List Nat → Nat
  | [] => 0
  | x :: W => opens W + (if x = 3 ∨ x = 14 then 1 else 0)
def cnt3 : List Nat → Nat
  | [] => 0
  | x :: W => cnt3 W + (if x = 3 then 1 else 0)
/-- what waits binds closer than what waits below it, but for what opens -/
def lvOk : List Nat → Prop
  | [] => True
  | x :: W => lvOk W ∧ (((x = 3 ∨ x = 14) ∧ rk (W.headD 0) ≤ 3) ∨ (rk (W.headD 0) < rk x ∧ 15 ≤ x ∧ x ≤ 22))
def pot (s : Nat) : Nat := if s = 22 then 1 else if s = 21 then 2 else if s = 18 ∨ s = 19 ∨ s = 20 then 3 else if s = 15 ∨ s = 16 then 4 else if s = 17 then 5 else 0
theorem pot_le : ∀ y, y < 32 → pot y ≤ 5 ∧ (rk y ≤ 3 → pot y ≤ 2) := by decide +kernel
theorem pot_lt : ∀ x, x < 32 → ∀ y, y < 32 → 15 ≤ x → x ≤ 22 → rk y < rk x → pot y + 1 ≤ pot x := by decide +kernel
theorem lvOk_lt : ∀ {W : List Nat}, lvOk W → ∀ x ∈ W, x < 32
  | [], _, x, h => by cases h
  | y :: W, h, x, hx => by
    rcases List.mem_cons.mp hx with e | e
    · subst e
      rcases h.2 with q | q <;> omega
    · exact lvOk_lt h.1 x e
theorem lvOk_hd : ∀ {W : List Nat}, lvOk W → W.headD 0 < 32
  | [], _ => by decide
  | y :: W, h => lvOk_lt h y List.mem_cons_self
theorem lvOk_len : ∀ {W : List Nat}, lvOk W → W.length ≤ 3 * opens W + pot (W.headD 0)
  | [], _ => by decide
  | x :: W, h => by
    have ih := lvOk_len h.1
    have hd := lvOk_hd h.1
    rw [List.length_cons, opens, List.headD_cons]
    rcases h.2 with ⟨q, q2⟩ | ⟨q, q2, q3⟩
    · rw [if_pos q]
      have := (pot_le _ hd).2 q2
      omega
    · have := pot_lt x (by omega) _ hd q2 q3 q
      rw [if_neg (by omega)]
      omega
theorem lvOk_29 {W : List Nat} (h : lvOk W) (ho : opens W ≤ 8) : W.length ≤ 29 := by
  have := lvOk_len h
  have := (pot_le _ (lvOk_hd h)).1
  omega
theorem rel_facts {k : Nat} (hk : 1 ≤ k) : ∀ (W : List Nat) (op : Nat) (L : List (Nat × Nat)), lvOk W → opens W = op → lvOk (rel k W op L).1 ∧ opens (rel k W op L).1 = (rel k W op L).2.1 ∧ (rel k W op L).2.1 ≤ op ∧ cnt3 (rel k W op L).1 = cnt3 W ∧ (rel k W op L).1.length + (rel k W op L).2.2.length = W.length + L.length ∧ rk ((rel k W op L).1.headD 0) < k := by
  intro W
  induction W with
  | nil => intro op L h ho; rw [rel]; exact ⟨trivial, ho, Nat.le_refl _, rfl, rfl, by show 0 < k; omega⟩
  | cons x W ih =>
    intro op L h ho
    rw [rel]
    rw [opens] at ho
    by_cases c : k ≤ rk x
    · rw [if_pos c]
      have hx3 : x ≠ 3 := fun e => by subst e; have : rk 3 = 0 := by decide
                                      omega
      have h1 : opens W = (if x = 14 then op - 1 else op) := by
        by_cases e : x = 14
        · rw [if_pos (Or.inr e)] at ho; rw [if_pos e]; omega
        · rw [if_neg (fun z => z.elim hx3 e)] at ho; rw [if_neg e]; omega
      obtain ⟨a, b, c1, d, e1, f⟩ := ih _ (L ++ [(x, 0)]) h.1 h1
      refine ⟨a, b, ?_, ?_, ?_, f⟩
      · refine Nat.le_trans c1 ?_
        split <;> omega
      · rw [d, cnt3, if_neg hx3, Nat.add_zero]
      · rw [e1, List.length_append, List.length_singleton, List.length_cons]; omega
    · rw [if_neg c]
      refine ⟨h, ?_, Nat.le_refl _, rfl, rfl, by rw [List.headD_cons]; omega⟩
      rw [opens]; exact ho
theorem release_n {wa : Nat → Int32} {k : Nat} (hk : k ≤ 6) (hk1 : 1 ≤ k) : ∀ (W : List Nat) (op : Nat) (L : List (Nat × Nat)) (code : Nat → Int32) (q f : Nat), lvOk W → opens W = op → W.length + L.length ≤ 400 → q + W.length ≤ 40 → W.length < f → op < 1000 → onRow wa (W.map nI) → CodeIs code L →
    ∃ code', F_X5_release_2 (nI k) wa f (nI q) (nI L.length) (nI op) (nI W.length) code = some (nI (rel k W op L).2.2.length, nI (rel k W op L).2.1, nI (rel k W op L).1.length, code') ∧ CodeIs code' (rel k W op L).2.2 ∧ onRow wa ((rel k W op L).1.map nI) := by
  intro W
  induction W with
  | nil =>
    intro op L code q f h ho hl hq hf hop hr hc
    obtain ⟨f, rfl⟩ : ∃ g, f = g + 1 := ⟨f - 1, by simp only [List.length_nil] at hf; omega⟩
    refine ⟨code, ?_, hc, trivial⟩
    rw [F_X5_release_2, rel]
    by_cases c : 40 ≤ q
    · rw [if_pos (show (40 : Int32) ≤ nI q from nI_le (a := 40) c (by simp only [List.length_nil] at hq; omega))]
    · rw [if_neg (show ¬ (40 : Int32) ≤ nI q from nI_ge (b := 40) (by omega) (by omega)), show F_X11_inside (nI ([] : List Nat).length - 1) 40 = some 0 by decide +kernel, Option.bind_some, if_pos rfl]
  | cons x W ih =>
    intro op L code q f h ho hl hq hf hop hr hc
    obtain ⟨f, rfl⟩ : ∃ g, f = g + 1 := ⟨f - 1, by omega⟩
    simp only [List.length_cons] at hl hq hf
    have hx := lvOk_lt h x List.mem_cons_self
    rw [List.map_cons] at hr
    have hx1 : wa W.length = nI x := by have := hr.1; rwa [List.length_map] at this
    have hrk := rk_le x
    rw [F_X5_release_2, if_neg (show ¬ (40 : Int32) ≤ nI q from nI_ge (b := 40) (by omega) (by omega)), List.length_cons, nI_pred, show (40 : Int32) = nI 40 from rfl, inside_n (by omega) (by omega), if_pos (show W.length < 40 by omega), Option.bind_some, if_neg one_ne, gin_n (show W.length < 40 by omega) (by omega), nI_clamp (by omega), hx1, rank_n x hx, Option.bind_some, rel]
    by_cases c : k ≤ rk x
    · rw [if_pos (nI_le c (by omega)), if_pos c]
      have hx3 : x ≠ 3 := fun e => by subst e; have : rk 3 = 0 := by decide
                                      omega
      rw [opens] at ho
      have step : ∀ op', opens W = op' → op' < 1000 → ∃ code', F_X5_release_69 (nI k) wa (F_X5_release_2 (nI k) wa f) (nI q) (nI x) (nI L.length) (nI op') (nI W.length) code = some (nI (rel k W op' (L ++ [(x, 0)])).2.2.length, nI (rel k W op' (L ++ [(x, 0)])).2.1, nI (rel k W op' (L ++ [(x, 0)])).1.length, code') ∧ CodeIs code' (rel k W op' (L ++ [(x, 0)])).2.2 ∧ onRow wa ((rel k W op' (L ++ [(x, 0)])).1.map nI) := by
        intro op' h1 h2
        unfold F_X5_release_69
        rw [emit_n hx (v := 0) (by omega) (by decide) (by omega), Option.bind_some, nI_1]
        exact ih op' (L ++ [(x, 0)]) _ (q + 1) f h.1 h1 (by rw [List.length_append, List.length_singleton]; omega) (by omega) (by omega) h2 hr.2 (hc.snoc x 0)
      by_cases e : x = 14
      · subst e
        rw [if_pos (Or.inr rfl)] at ho
        rw [if_pos (show nI 14 = (14 : Int32) from rfl), if_pos rfl, show nI op - 1 = nI (op - 1) by rw [show op = (op - 1) + 1 by omega, nI_pred]; rfl]
        exact step (op - 1) (by omega) (by omega)
      · rw [if_neg (fun z => z.elim hx3 e)] at ho
        rw [if_neg (show ¬ nI x = (14 : Int32) from fun z => e ((nI_eq (show x < 2 ^ 31 by omega) (show 14 < 2 ^ 31 by omega)).mp z)), if_neg e]
        exact step op (by omega) hop
    · rw [if_neg (nI_ge (by omega) (by omega)), if_neg c]
      exact ⟨code, by rw [List.length_cons], hc, by rw [List.map_cons]; exact hr⟩
