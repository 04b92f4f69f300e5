/-! clauses joined -/
theorem stl_stay {y op : Nat} {P : List Nat} {L : List (Nat × Nat)} (h : P.head? ≠ some y) : stl y P op L = (P, op, L) := by
  cases P with
  | nil => rfl
  | cons x P => rw [stl, if_neg (fun z => h (by rw [z]; rfl))]
theorem hd_ne {y : Nat} {P : List Nat} (h : rk (P.headD 0) < rk y) : P.head? ≠ some y := by
  cases P with
  | nil => intro z; cases z
  | cons x P =>
    rw [List.headD_cons] at h
    intro z
    have : x = y := by simpa using z
    subst this
    omega
theorem rel2_stl {op : Nat} {P : List Nat} {L : List (Nat × Nat)} (h : lvOk P) (hp : pOk P) (h14 : P.head? ≠ some 14) : rel 2 P op L = stl 21 P op L := by
  cases P with
  | nil => rfl
  | cons x P =>
    rcases hp x List.mem_cons_self with rfl | rfl | rfl | rfl
    · rw [rel_stay (by rw [List.headD_cons]; decide), stl_stay (by simp)]
    · exact absurd rfl h14
    · have h1 : rk (P.headD 0) < 2 := by
        rcases h.2 with q | q
        · omega
        · exact q.1
      rw [rel_pop (show 2 ≤ rk 21 by decide) (by omega), stl, if_pos rfl, if_neg (by omega), rel_stay h1, stl_stay (hd_ne h1)]
    · rw [rel_stay (by rw [List.headD_cons]; decide), stl_stay (by simp)]
theorem rel1_22 {op : Nat} {P : List Nat} {L : List (Nat × Nat)} (h : lvOk P) (hp : pOk P) (h14 : P.head? ≠ some 14) (h21 : P.head? ≠ some 21) : rel 1 P op L = stl 22 P op L := by
  cases P with
  | nil => rfl
  | cons x P =>
    rcases hp x List.mem_cons_self with rfl | rfl | rfl | rfl
    · rw [rel_stay (by rw [List.headD_cons]; decide), stl_stay (by simp)]
    · exact absurd rfl h14
    · exact absurd rfl h21
    · have h1 : rk (P.headD 0) < 1 := by
        rcases h.2 with q | q
        · omega
        · exact q.1
      rw [rel_pop (show 1 ≤ rk 22 by decide) (by omega), stl, if_pos rfl, if_neg (by omega), rel_stay h1, stl_stay (hd_ne h1)]
theorem rel1_stl {op : Nat} {P : List Nat} {L : List (Nat × Nat)} (h : lvOk P) (hp : pOk P) (h14 : P.head? ≠ some 14) : rel 1 P op L = stl 22 (stl 21 P op L).1 (stl 21 P op L).2.1 (stl 21 P op L).2.2 := by
  by_cases c : P.head? = some 21
  · cases P with
    | nil => cases c
    | cons x P =>
      have e : x = 21 := by simpa using c
      subst e
      have h1 : rk (P.headD 0) < 2 := by
        rcases h.2 with q | q
        · omega
        · exact q.1
      have h21 : P.head? ≠ some 21 := hd_ne h1
      rw [rel_pop (show 1 ≤ rk 21 by decide) (by omega), stl, if_pos rfl, if_neg (by omega), stl_stay h21]
      exact rel1_22 h.1 (fun z hz => hp z (List.mem_cons_of_mem _ hz)) (hd_ne (y := 14) (by have : rk 14 = 3 := by decide
                                                                                            omega)) h21
  · rw [stl_stay c]
    exact rel1_22 h hp h14 c
/-- how many join two -/
def bins : List Nat → Nat
  | [] => 0
  | x :: P => bins P + (if x = 21 ∨ x = 22 then 1 else 0)
theorem bins_le : ∀ (P : List Nat), bins P ≤ P.length
  | [] => Nat.le_refl _
  | x :: P => by
    have := bins_le P
    rw [bins, List.length_cons]
    split <;> omega
/-- the kinds on the stack -/
def Kinds (L : List (Nat × Nat)) (q : Nat) : Prop := (∀ c ∈ L, opOk c.1 c.2) ∧ tRun L [] = some (List.replicate q true)
theorem kinds_stl {y : Nat} (hy : y = 14 ∨ y = 21 ∨ y = 22) : ∀ (P : List Nat) (op : Nat) (L : List (Nat × Nat)), Kinds L (bins P + 1) → Kinds (stl y P op L).2.2 (bins (stl y P op L).1 + 1) := by
  intro P
  induction P with
  | nil => intro op L h; exact h
  | cons x P ih =>
    intro op L h
    rw [stl]
    by_cases c : x = y
    · rw [if_pos c]
      subst c
      refine ih _ _ ⟨fun z hz => ?_, ?_⟩
      · rcases List.mem_append.mp hz with hz | hz
        · exact h.1 z hz
        · rcases List.mem_singleton.mp hz with rfl
          exact ⟨by dsimp only; omega, fun z => by dsimp only at z; omega, fun z => by dsimp only at z; omega, fun z => by dsimp only at z; omega⟩
      · rw [tRun_app, h.2, Option.bind_some, bins]
        rcases hy with rfl | rfl | rfl
        · rw [if_neg (by omega), Nat.add_zero, List.replicate_succ]; rfl
        · rw [if_pos (by omega), List.replicate_succ, List.replicate_succ]; rfl
        · rw [if_pos (by omega), List.replicate_succ, List.replicate_succ]; rfl
    · rw [if_neg c]; exact h
theorem kinds_app {L M : List (Nat × Nat)} {q : Nat} (h : Kinds L q) (hM : TyM true 4 M) (hq : q + 4 ≤ 40) : Kinds (L ++ M) (q + 1) := by
  refine ⟨fun c hc => ?_, ?_⟩
  · rcases List.mem_append.mp hc with hc | hc
    · exact h.1 c hc
    · exact hM.1 c hc
  · rw [tRun_app, h.2, Option.bind_some, hM.2 _ (by rw [List.length_replicate]; exact hq), List.replicate_succ]
