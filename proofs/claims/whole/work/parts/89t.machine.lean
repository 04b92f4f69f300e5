/-! the class's reader, as a machine over lists: state, name, compared, open, parentheses, number, what waits, the code -/
abbrev PS := Nat × Nat × Nat × Nat × Nat × Nat × List Nat × List (Nat × Nat)
def rk (s : Nat) : Nat := if s = 14 then 3 else if s = 15 then 5 else if s = 16 then 5 else if s = 17 then 6 else if s = 18 then 4 else if s = 19 then 4 else if s = 20 then 4 else if s = 21 then 2 else if s = 22 then 1 else 0
/-- what binds at least as close goes into the code -/
def rel (k : Nat) : List Nat → Nat → List (Nat × Nat) → List Nat × Nat × List (Nat × Nat)
  | [], op, L => ([], op, L)
  | x :: W, op, L => if k ≤ rk x then rel k W (if x = 14 then op - 1 else op) (L ++ [(x, 0)]) else (x :: W, op, L)
abbrev dSm (s : Nat) : Prop := s = 15 ∨ s = 16 ∨ s = 17
abbrev dCp (s : Nat) : Prop := s = 18 ∨ s = 19 ∨ s = 20
/-- release, then wait -/
def pushS (s st' nm cm' op pa nu : Nat) (W : List Nat) (L : List (Nat × Nat)) : PS := (st', nm, cm', (rel (rk s) W op L).2.1, pa, nu, s :: (rel (rk s) W op L).1, (rel (rk s) W op L).2.2)
def sUnit (s nm cm op pa nu : Nat) (W : List Nat) (L : List (Nat × Nat)) : Nat × PS :=
  if s = 7 ∨ s = 8 then (0, 3, s, cm, op, pa, nu, W, L)
  else if s = 6 ∨ s = 9 ∨ s = 10 then (0, 4, nm, cm, op, pa, nu, W, L ++ [(s, nu)])
  else (1, 8, nm, cm, op, pa, nu, W, L)
def sClause (s nm cm op pa nu : Nat) (W : List Nat) (L : List (Nat × Nat)) : Nat × PS :=
  if s = 14 ∨ s = 3 then (if op < 8 then (0, 0, nm, cm, op + 1, (if s = 3 then pa + 1 else pa), nu, s :: W, L) else (3, 8, nm, cm, op, pa, nu, W, L))
  else if s = 11 then (0, 2, 11, cm, op, pa, nu, W, L)
  else sUnit s nm 0 op pa nu W L
def sOwner (s nm cm op pa nu : Nat) (W : List Nat) (L : List (Nat × Nat)) : Nat × PS :=
  if s = 6 then
    (if nm = 11 then (if nu < 10 then (0, 5, nm, cm, op, pa, nu, W, L ++ [(11, nu)]) else (2, 8, nm, cm, op, pa, nu, W, L))
     else (if nu < 6 then (0, 4, nm, cm, op, pa, nu, W, L ++ [((if nm = 7 then 12 else 13), nu)]) else (2, 8, nm, cm, op, pa, nu, W, L)))
  else (1, 8, nm, cm, op, pa, nu, W, L)
def sBU (s nm cm op pa nu : Nat) (W : List Nat) (L : List (Nat × Nat)) : Nat × PS :=
  if dSm s then (0, pushS s 1 nm cm op pa nu W L)
  else if dCp s then (0, pushS s 1 nm 1 op pa nu W L)
  else (1, 8, nm, cm, op, pa, nu, W, L)
def sBC (s nm cm op pa nu : Nat) (W : List Nat) (L : List (Nat × Nat)) : Nat × PS :=
  if s = 21 ∨ s = 22 then (0, pushS s 0 nm cm op pa nu W L)
  else if s = 4 ∧ 0 < pa then (0, 5, nm, cm, (rel 1 W op L).2.1 - 1, pa - 1, nu, (rel 1 W op L).1.tail, (rel 1 W op L).2.2)
  else if s = 2 ∧ pa = 0 then (0, 6, nm, cm, (rel 1 W op L).2.1, pa, nu, (rel 1 W op L).1, (rel 1 W op L).2.2)
  else (1, 8, nm, cm, op, pa, nu, W, L)
/-- 0: goes on; 1, 2, 3: a fault; 4: over -/
def sAct (s st nm cm op pa nu : Nat) (W : List Nat) (L : List (Nat × Nat)) : Nat × PS :=
  if st = 0 then sClause s nm cm op pa nu W L
  else if st = 1 then sUnit s nm cm op pa nu W L
  else if st = 2 then sOwner s nm cm op pa nu W L
  else if st = 3 then (0, 2, nm, cm, op, pa, nu, W, L)
  else if st = 4 then sBU s nm cm op pa nu W L
  else if st = 5 then sBC s nm cm op pa nu W L
  else if st = 6 then (if s = 0 then (4, 8, nm, cm, op, pa, nu, W, L) else (1, 8, nm, cm, op, pa, nu, W, L))
  else (if s = 0 then (4, 8, nm, cm, op, pa, nu, W, L) else sClause s nm cm op pa nu W L)
def sAct4 (s st nm cm op pa nu : Nat) (W : List Nat) (L : List (Nat × Nat)) : Nat × PS :=
  sAct s (if st = 4 ∧ cm ≠ 0 ∧ ¬ dSm s then 5 else st) nm cm op pa nu W L
def sAct3 (s st nm cm op pa nu : Nat) (W : List Nat) (L : List (Nat × Nat)) : Nat × PS :=
  if st = 3 ∧ s ≠ 5 then sAct4 s 4 nm cm op pa nu W (L ++ [(nm, 0)]) else sAct4 s st nm cm op pa nu W L
def step (S : PS) (s v : Nat) : Nat × PS := sAct3 s S.1 S.2.1 S.2.2.1 S.2.2.2.1 S.2.2.2.2.1 (if s = 6 then v else S.2.2.2.2.2.1) S.2.2.2.2.2.2.1 S.2.2.2.2.2.2.2
/-- runs from i on: fault, its place, the code -/
def crun (T : Nat → Nat) (n : Nat) : Nat → Nat → PS → Option (Nat × Nat × List (Nat × Nat))
  | 0, _, _ => none
  | f + 1, i, S => if (step S (tS T n i) (tV T n i)).1 = 0 then crun T n f (tE T n i) (step S (tS T n i) (tV T n i)).2
    else if (step S (tS T n i) (tV T n i)).1 = 4 then some (0, 0, (step S (tS T n i) (tV T n i)).2.2.2.2.2.2.2.2)
    else some ((step S (tS T n i) (tV T n i)).1, tP T n i, [])
def CR (T : Nat → Nat) (n i : Nat) (S : PS) (out : Nat × Nat × List (Nat × Nat)) : Prop := ∃ f, crun T n f i S = some out
section MM
variable {T : Nat → Nat} {n i : Nat} {S S' : PS} {out : Nat × Nat × List (Nat × Nat)}
theorem CR.next (h : step S (tS T n i) (tV T n i) = (0, S')) (hr : CR T n (tE T n i) S' out) : CR T n i S out := by
  obtain ⟨f, hf⟩ := hr
  refine ⟨f + 1, ?_⟩
  rw [crun, h, if_pos rfl]
  exact hf
theorem CR.over (h : step S (tS T n i) (tV T n i) = (4, S')) : CR T n i S (0, 0, S'.2.2.2.2.2.2.2) := by
  refine ⟨1, ?_⟩
  rw [crun, h, if_neg (show ¬ (4 : Nat) = 0 by omega), if_pos rfl]
theorem CR.stop {k : Nat} (h : step S (tS T n i) (tV T n i) = (k, S')) (h0 : k ≠ 0) (h4 : k ≠ 4) : CR T n i S (k, tP T n i, []) := by
  refine ⟨1, ?_⟩
  rw [crun, h, if_neg h0, if_neg h4]
/-- two states that do the same with the next token -/
theorem CR.same (h : step S (tS T n i) (tV T n i) = step S' (tS T n i) (tV T n i)) (hr : CR T n i S' out) : CR T n i S out := by
  obtain ⟨f, hf⟩ := hr
  refine ⟨f, ?_⟩
  cases f with
  | zero => cases hf
  | succ f => rw [crun] at hf ⊢; rw [h]; exact hf
end MM
