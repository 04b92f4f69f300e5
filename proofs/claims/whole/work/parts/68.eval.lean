/-! A RULE'S CODE, evaluated: one picture for both sides. A code is a list of pairs (sign, operand), as the class's signs are -/
def jn (s : Nat) (a b : Int32) : Int32 := if s = 15 then a + b else if s = 16 then a - b else if s = 17 then a * b else if s = 18 then (if b ≤ a then 0 else 1) else if s = 19 then (if a = b then 1 else 0) else if s = 20 then (if a ≤ b then 0 else 1) else if s = 21 then a &&& b else a ||| b
def eStep (lf : Nat → Nat → Int32) (s v : Nat) (V : List Int32) : List Int32 :=
  if s < 14 then lf s v :: V else if s = 14 then (match V with
    | a :: r => (1 - a) :: r
    | [] => []) else (match V with
    | b :: a :: r => jn s a b :: r
    | V => V)
def eRun (lf : Nat → Nat → Int32) : List (Nat × Nat) → List Int32 → List Int32
  | [], V => V
  | c :: L, V => eRun lf L (eStep lf c.1 c.2 V)
/-- what kind of value each place of the stack holds (true: 0 or 1), and that it fits -/
def tStep (s : Nat) (T : List Bool) : Option (List Bool) :=
  if s = 11 then (if T.length < 40 then some (true :: T) else none)
  else if 6 ≤ s ∧ s < 14 then (if T.length < 40 then some (false :: T) else none)
  else if s = 14 then (match T with
    | true :: r => some (true :: r)
    | _ => none)
  else if 15 ≤ s ∧ s ≤ 17 then (match T with
    | false :: false :: r => some (false :: r)
    | _ => none)
  else if 18 ≤ s ∧ s ≤ 20 then (match T with
    | false :: false :: r => some (true :: r)
    | _ => none)
  else if 21 ≤ s ∧ s ≤ 22 then (match T with
    | true :: true :: r => some (true :: r)
    | _ => none)
  else none
def tRun : List (Nat × Nat) → List Bool → Option (List Bool)
  | [], T => some T
  | c :: L, T => (tStep c.1 T).bind (tRun L)
/-- operands that are such -/
def opOk (s v : Nat) : Prop := v < 16384 ∧ (s = 6 → v < 10000) ∧ (s = 11 → v < 10) ∧ (s = 12 ∨ s = 13 → v < 6)
def Ty : List Bool → List Int32 → Prop
  | [], [] => True
  | t :: T, a :: V => (t = true → a = 0 ∨ a = 1) ∧ Ty T V
  | _, _ => False
theorem Ty.len : ∀ {T : List Bool} {V : List Int32}, Ty T V → T.length = V.length
  | [], [], _ => rfl
  | _ :: _, _ :: _, h => congrArg (· + 1) (Ty.len h.2)
/-- a stack laid in a row: the last brought on top -/
def onRow (row : Nat → Int32) : List Int32 → Prop
  | [] => True
  | a :: V => row V.length = a ∧ onRow row V
theorem onRow_upd {row : Nat → Int32} {x : Int32} {k : Nat} : ∀ {V : List Int32}, V.length ≤ k → onRow row V → onRow (upd row k x) V
  | [], _, _ => trivial
  | a :: V, hk, h => by
    simp only [List.length_cons] at hk
    exact ⟨by rw [upd_ne _ _ (by omega)]; exact h.1, onRow_upd (by omega) h.2⟩
/-- a step of the right kind: what it needs, what it gives -/
theorem tStep_cases {s : Nat} {T T' : List Bool} {V : List Int32} (lf : Nat → Nat → Int32) (v : Nat) (h : tStep s T = some T') (hT : Ty T V) (hl : s = 11 → lf 11 v = 0 ∨ lf 11 v = 1) :
    Ty T' (eStep lf s v V) ∧ ((6 ≤ s ∧ s < 14 ∧ V.length < 40 ∧ eStep lf s v V = lf s v :: V) ∨ (s = 14 ∧ ∃ a r, V = a :: r ∧ eStep lf s v V = (1 - a) :: r) ∨ (15 ≤ s ∧ s ≤ 22 ∧ ∃ a b r, V = b :: a :: r ∧ eStep lf s v V = jn s a b :: r ∧ (21 ≤ s → (a = 0 ∨ a = 1) ∧ (b = 0 ∨ b = 1)))) := by
  have hlen := hT.len
  unfold tStep at h
  by_cases c1 : s = 11
  · rw [if_pos c1] at h
    by_cases c : T.length < 40
    · rw [if_pos c] at h
      cases h
      have e : eStep lf s v V = lf s v :: V := by unfold eStep; rw [if_pos (by omega)]
      exact ⟨by rw [e]; exact ⟨fun _ => by rw [c1]; exact hl c1, hT⟩, Or.inl ⟨by omega, by omega, by omega, e⟩⟩
    · rw [if_neg c] at h; cases h
  rw [if_neg c1] at h
  by_cases c2 : 6 ≤ s ∧ s < 14
  · rw [if_pos c2] at h
    by_cases c : T.length < 40
    · rw [if_pos c] at h
      cases h
      have e : eStep lf s v V = lf s v :: V := by unfold eStep; rw [if_pos (by omega)]
      exact ⟨by rw [e]; exact ⟨fun q => (by cases q), hT⟩, Or.inl ⟨by omega, by omega, by omega, e⟩⟩
    · rw [if_neg c] at h; cases h
  rw [if_neg c2] at h
  by_cases c3 : s = 14
  · rw [if_pos c3] at h
    match T, V, hT, h with
    | true :: T, a :: V, hT, h =>
      cases h
      have e : eStep lf s v (a :: V) = (1 - a) :: V := by unfold eStep; rw [if_neg (by omega), if_pos c3]
      refine ⟨?_, Or.inr (Or.inl ⟨c3, a, V, rfl, e⟩)⟩
      rw [e]
      refine ⟨fun _ => ?_, hT.2⟩
      rcases hT.1 rfl with q | q <;> rw [q]
      · exact Or.inr (by decide)
      · exact Or.inl (by decide)
  rw [if_neg c3] at h
  have e2 : 15 ≤ s → ∀ (a b : Int32) (r : List Int32), eStep lf s v (b :: a :: r) = jn s a b :: r := by
    intro h15 a b r
    unfold eStep
    rw [if_neg (by omega), if_neg c3]
  by_cases c4 : 15 ≤ s ∧ s ≤ 17
  · rw [if_pos c4] at h
    match T, V, hT, h with
    | false :: false :: T, b :: a :: V, hT, h =>
      cases h
      exact ⟨by rw [e2 (by omega)]; exact ⟨fun q => (by cases q), hT.2.2⟩, Or.inr (Or.inr ⟨by omega, by omega, a, b, V, rfl, e2 (by omega) a b V, fun q => by omega⟩)⟩
  rw [if_neg c4] at h
  by_cases c5 : 18 ≤ s ∧ s ≤ 20
  · rw [if_pos c5] at h
    match T, V, hT, h with
    | false :: false :: T, b :: a :: V, hT, h =>
      cases h
      refine ⟨?_, Or.inr (Or.inr ⟨by omega, by omega, a, b, V, rfl, e2 (by omega) a b V, fun q => by omega⟩)⟩
      rw [e2 (by omega)]
      refine ⟨fun _ => ?_, hT.2.2⟩
      unfold jn
      rw [if_neg (by omega), if_neg (by omega), if_neg (by omega)]
      by_cases d1 : s = 18
      · rw [if_pos d1]; by_cases q : b ≤ a
        · rw [if_pos q]; exact Or.inl rfl
        · rw [if_neg q]; exact Or.inr rfl
      · rw [if_neg d1]
        by_cases d2 : s = 19
        · rw [if_pos d2]; by_cases q : a = b
          · rw [if_pos q]; exact Or.inr rfl
          · rw [if_neg q]; exact Or.inl rfl
        · rw [if_neg d2, if_pos (by omega)]; by_cases q : a ≤ b
          · rw [if_pos q]; exact Or.inl rfl
          · rw [if_neg q]; exact Or.inr rfl
  rw [if_neg c5] at h
  by_cases c6 : 21 ≤ s ∧ s ≤ 22
  · rw [if_pos c6] at h
    match T, V, hT, h with
    | true :: true :: T, b :: a :: V, hT, h =>
      cases h
      have hb := hT.1 rfl
      have ha := hT.2.1 rfl
      refine ⟨?_, Or.inr (Or.inr ⟨by omega, by omega, a, b, V, rfl, e2 (by omega) a b V, fun _ => ⟨ha, hb⟩⟩)⟩
      rw [e2 (by omega)]
      refine ⟨fun _ => ?_, hT.2.2⟩
      unfold jn
      rw [if_neg (by omega), if_neg (by omega), if_neg (by omega), if_neg (by omega), if_neg (by omega), if_neg (by omega)]
      by_cases d : s = 21
      · rw [if_pos d]; rcases ha with q | q <;> rcases hb with q2 | q2 <;> rw [q, q2] <;> decide
      · rw [if_neg d]; rcases ha with q | q <;> rcases hb with q2 | q2 <;> rw [q, q2] <;> decide
  rw [if_neg c6] at h
  cases h
