/-! what waits on the reference's side -/
def pO (x : Nat) : Nat := if x = 3 then 13 else opOf x
def pOk (P : List Nat) : Prop := ∀ x ∈ P, x = 3 ∨ x = 14 ∨ x = 21 ∨ x = 22
def stl (y : Nat) : List Nat → Nat → List (Nat × Nat) → List Nat × Nat × List (Nat × Nat)
  | [], op, L => ([], op, L)
  | x :: P, op, L => if x = y then stl y P (if y = 14 then op - 1 else op) (L ++ [(y, 0)]) else (x :: P, op, L)
theorem pO_inj {x y : Nat} (hx : x = 3 ∨ x = 14 ∨ x = 21 ∨ x = 22) (hy : y = 14 ∨ y = 21 ∨ y = 22) : (nI (pO x) = nI (opOf y)) ↔ x = y := by
  rcases hx with rfl | rfl | rfl | rfl <;> rcases hy with rfl | rfl | rfl <;> decide
theorem settles_n {pe : Nat → Int32} {y : Nat} (hy : y = 14 ∨ y = 21 ∨ y = 22) {op0 arg0 : Nat → Int32} : ∀ (P : List Nat) (op1 : Nat) (L : List (Nat × Nat)) (op arg : Nat → Int32) (f : Nat), pOk P → P.length ≤ 40 → P.length + L.length ≤ 400 → P.length < f → opens P = op1 → op1 < 1000 → onRow pe (P.map (fun x => nI (pO x))) → DraftIs L op arg op0 arg0 →
    ∃ op' arg', F_X12_settles_0 (nI (opOf y)) pe f (nI L.length) (nI op1) (nI P.length) arg op = some (nI (stl y P op1 L).2.2.length, nI (stl y P op1 L).2.1, nI (stl y P op1 L).1.length, arg', op') ∧ DraftIs (stl y P op1 L).2.2 op' arg' op0 arg0 ∧ onRow pe ((stl y P op1 L).1.map (fun x => nI (pO x))) := by
  intro P
  induction P with
  | nil =>
    intro op1 L op arg f hp hl hc hf ho h1 hr hd
    obtain ⟨f, rfl⟩ : ∃ g, f = g + 1 := ⟨f - 1, by omega⟩
    rw [F_X12_settles_0, if_pos (show nI ([] : List Nat).length ≤ 0 by decide), stl]
    exact ⟨op, arg, rfl, hd, trivial⟩
  | cons x P ih =>
    intro op1 L op arg f hp hl hc hf ho h1 hr hd
    obtain ⟨f, rfl⟩ : ∃ g, f = g + 1 := ⟨f - 1, by omega⟩
    simp only [List.length_cons] at hl hc hf
    have hx := hp x List.mem_cons_self
    rw [List.map_cons] at hr
    have hx1 : pe P.length = nI (pO x) := by have := hr.1; rwa [List.length_map] at this
    rw [F_X12_settles_0, List.length_cons, if_neg (show ¬ nI (P.length + 1) ≤ 0 from nI_nle (by omega) (by omega)), nI_pred, gin_n (show P.length < 40 by omega) (by omega), nI_clamp (by omega), hx1, stl]
    by_cases c : x = y
    · rw [if_pos ((pO_inj hx hy).mpr c), if_pos c]
      obtain ⟨arg2, op2, q1, q2⟩ := emits_n (s := y) (v := 0) (x1 := nI (opOf y)) (x2 := 0) hd (by omega) rfl (by rcases hy with rfl | rfl | rfl <;> rfl)
      rw [q1, Option.bind_some]
      subst c
      rw [opens] at ho
      have hp' : pOk P := fun z hz => hp z (List.mem_cons_of_mem _ hz)
      by_cases e : x = 14
      · rw [if_pos (Or.inr e)] at ho
        rw [if_pos (show nI (opOf x) = (10 : Int32) by rw [e]; rfl), if_pos e, show nI op1 - 1 = nI (op1 - 1) by rw [show op1 = (op1 - 1) + 1 by omega, nI_pred]; rfl]
        exact ih (op1 - 1) (L ++ [(x, 0)]) op2 arg2 f hp' (by omega) (by rw [List.length_append, List.length_singleton]; omega) (by omega) (by omega) (by omega) hr.2 q2
      · have h3 : x ≠ 3 := by omega
        rw [if_neg (fun z => z.elim h3 e)] at ho
        rw [if_neg (show ¬ nI (opOf x) = (10 : Int32) by rcases hy with z | z | z <;> first | exact absurd z e | (rw [z]; decide)), if_neg e]
        exact ih op1 (L ++ [(x, 0)]) op2 arg2 f hp' (by omega) (by rw [List.length_append, List.length_singleton]; omega) (by omega) (by omega) h1 hr.2 q2
    · rw [if_neg (fun z => c ((pO_inj hx hy).mp z)), if_neg c]
      exact ⟨op, arg, by rw [List.length_cons], hd, by rw [List.map_cons]; exact hr⟩
/-- NOTs on top may go early -/
theorem CR.nots {T : Nat → Nat} {n i nm cm pa nu : Nat} {out : Nat × Nat × List (Nat × Nat)} : ∀ (P : List Nat) (op : Nat) (L : List (Nat × Nat)), CR T n i (5, nm, cm, (stl 14 P op L).2.1, pa, nu, (stl 14 P op L).1, (stl 14 P op L).2.2) out → CR T n i (5, nm, cm, op, pa, nu, P, L) out := by
  intro P
  induction P with
  | nil => intro op L h; exact h
  | cons x P ih =>
    intro op L h
    rw [stl] at h
    by_cases c : x = 14
    · subst c
      rw [if_pos rfl, if_pos rfl] at h
      exact CR.sameE eagN (ih _ _ h)
    · rw [if_neg c] at h
      exact h
theorem stl_facts {y : Nat} (hy : y = 14 ∨ y = 21 ∨ y = 22) : ∀ (P : List Nat) (op : Nat) (L : List (Nat × Nat)), lvOk P → pOk P → opens P = op → lvOk (stl y P op L).1 ∧ pOk (stl y P op L).1 ∧ opens (stl y P op L).1 = (stl y P op L).2.1 ∧ (stl y P op L).2.1 ≤ op ∧ cnt3 (stl y P op L).1 = cnt3 P ∧ (stl y P op L).1.length + (stl y P op L).2.2.length = P.length + L.length ∧ (stl y P op L).1.head? ≠ some y := by
  intro P
  induction P with
  | nil => intro op L h hp ho; rw [stl]; exact ⟨trivial, hp, ho, Nat.le_refl _, rfl, rfl, by simp⟩
  | cons x P ih =>
    intro op L h hp ho
    rw [stl]
    rw [opens] at ho
    by_cases c : x = y
    · rw [if_pos c]
      subst c
      have h3 : x ≠ 3 := by omega
      have h1 : opens P = (if x = 14 then op - 1 else op) := by
        by_cases e : x = 14
        · rw [if_pos (Or.inr e)] at ho; rw [if_pos e]; omega
        · rw [if_neg (fun z => z.elim h3 e)] at ho; rw [if_neg e]; omega
      obtain ⟨a, b, c1, d, e1, f, g⟩ := ih _ (L ++ [(x, 0)]) h.1 (fun z hz => hp z (List.mem_cons_of_mem _ hz)) h1
      refine ⟨a, b, c1, ?_, ?_, ?_, g⟩
      · refine Nat.le_trans d ?_
        split <;> omega
      · rw [e1, cnt3, if_neg h3, Nat.add_zero]
      · rw [f, List.length_append, List.length_singleton, List.length_cons]; omega
    · rw [if_neg c]
      refine ⟨h, hp, ?_, Nat.le_refl _, rfl, rfl, fun z => c (by simpa using z)⟩
      rw [opens]; exact ho
