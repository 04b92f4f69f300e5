/-! THE TABLE of the sets that carry -/
/-- the bit of a set -/
def tb (bits : Nat → Int32) (k : Nat) : Bool := bt (bits (k / 32)) (k % 32)
theorem set_hi {k : Nat} (hk : k < 1024) : nI k >>> ((5 : Int32) &&& 31) = nI (k / 32) := by
  rw [pk_shrN (by omega) _ 5 (by decide)]
theorem set_lo {k : Nat} (hk : k < 1024) : nI k &&& 31 = nI (k % 32) := pk_andN (by omega) 5 (by decide)
theorem at_s {bits : Nat → Int32} {k : Nat} (hk : k < 1024) : F_X9_at (nI k) bits = some (if tb bits k = true then 1 else 0) := by
  have h1 : k / 32 < 32 := by omega
  have h2 : k % 32 < 32 := by omega
  unfold F_X9_at
  rw [show (1024 : Int32) = nI 1024 from rfl, inside_n (by omega) (by omega), if_pos hk, Option.bind_some, if_neg one_ne, set_hi hk, gin_n h1 (by omega), nI_clamp (by omega), set_lo hk, has_s _ h2, Option.bind_some]
  show (if (if tb bits k = true then (1 : Int32) else 0) = 0 then some (0 : Int32) else some 1) = _
  by_cases c : tb bits k = true
  · simp only [if_pos c, if_neg one_ne]
  · simp only [if_neg c, if_true]
theorem mark_s {bits : Nat → Int32} {k : Nat} (hk : k < 1024) : ∃ b', F_X9_mark (nI k) bits = some b' ∧ ∀ j, tb b' j = (tb bits j || decide (j = k)) := by
  have h1 : k / 32 < 32 := by omega
  have h2 : k % 32 < 32 := by omega
  unfold F_X9_mark
  rw [show (1024 : Int32) = nI 1024 from rfl, inside_n (by omega) (by omega), if_pos hk, Option.bind_some, if_neg one_ne, set_hi hk, set_lo hk]
  simp only [gin_n h1 (show 32 < 2 ^ 31 by omega), nI_clamp (show k / 32 < 2 ^ 31 by omega)]
  refine ⟨_, rfl, fun j => ?_⟩
  unfold tb
  by_cases c : j / 32 = k / 32
  · rw [c, upd_self, b_or, b_one h2 (Nat.mod_lt _ (by decide))]
    congr 1
    exact decide_eq_decide.mpr (by omega)
  · rw [upd_ne _ _ c, decide_eq_false (fun e => c (by rw [e])), Bool.or_false]
/-- the truth table of a code over the sets of those in -/
def Truth (sin sal : Int32) (mo sw : Nat → Int32) (L : List (Nat × Nat)) (bits : Nat → Int32) (n : Nat) : Prop := ∀ j, j < 1024 → (tb bits j = true ↔ j < n ∧ (nI j &&& (sin ^^^ (-1))) = 0 ∧ says (lfS sin sal mo sw (nI j)) L = 1)
theorem tab_24 {sin sal : Int32} {mo sw code : Nat → Int32} {L : List (Nat × Nat)} (hL : Good L) (hsin : ∀ i, 10 ≤ i → i < 32 → bt sin i = false) (hcode : ∀ j c, L[j]? = some c → code j = nI (c.1 * 16384 + c.2)) (fr ti ts : Int32) :
    ∀ (fuel i : Nat) (row bits : Nat → Int32), 1024 - i < fuel → i ≤ 1024 → Truth sin sal mo sw L bits i → ∃ row' bits', F_X6_tabulate_24 sal sin mo sw (nI L.length) code fuel (nI i) row fr ti ts bits = some (row', 1, ti, ts, bits') ∧ Truth sin sal mo sw L bits' 1024 := by
  intro fuel
  induction fuel with
  | zero => intro i row bits h; omega
  | succ n ih =>
    intro i row bits h hi hT
    rw [F_X6_tabulate_24]
    rcases Nat.lt_or_ge i 1024 with hlt | hge
    · rw [if_neg (show ¬ (1024 : Int32) ≤ nI i from nI_ge (b := 1024) hlt (by omega)), isWithin_s, Option.bind_some, nI_1]
      by_cases c : (nI i &&& (sin ^^^ (-1))) = 0
      · rw [if_pos c, if_neg one_ne]
        obtain ⟨row1, h1, h01⟩ := holds_s (row := row) (lf := lfS sin sal mo sw (nI i)) hL (fun s v a b o => ask_s (nI_hi hlt) hsin a b o) (fun v _ => lfS_11 v) hcode
        rw [h1, Option.bind_some]
        dsimp only
        rcases h01 with q | q
        · rw [if_pos q]
          refine ih (i + 1) row1 bits (by omega) (by omega) (fun j hj => ?_)
          rw [hT j hj]
          constructor
          · rintro ⟨a, b⟩; exact ⟨by omega, b⟩
          · rintro ⟨a, b1, b2⟩
            refine ⟨?_, b1, b2⟩
            rcases Nat.lt_or_ge j i with z | z
            · exact z
            · have e : j = i := by omega
              rw [e, q] at b2; exact absurd b2.symm one_ne
        · rw [if_neg (by rw [q]; exact one_ne)]
          obtain ⟨b', hb1, hb2⟩ := mark_s (bits := bits) hlt
          rw [hb1, Option.bind_some]
          refine ih (i + 1) row1 b' (by omega) (by omega) (fun j hj => ?_)
          rw [hb2 j, Bool.or_eq_true, hT j hj, decide_eq_true_iff]
          constructor
          · rintro (⟨a, b⟩ | e)
            · exact ⟨by omega, b⟩
            · rw [e]; exact ⟨by omega, c, q⟩
          · rintro ⟨a, b⟩
            by_cases e : j = i
            · exact Or.inr e
            · exact Or.inl ⟨by omega, b⟩
      · rw [if_neg c, if_pos rfl]
        refine ih (i + 1) row bits (by omega) (by omega) (fun j hj => ?_)
        rw [hT j hj]
        constructor
        · rintro ⟨a, b⟩; exact ⟨by omega, b⟩
        · rintro ⟨a, b1, b2⟩
          refine ⟨?_, b1, b2⟩
          rcases Nat.lt_or_ge j i with z | z
          · exact z
          · have e : j = i := by omega
            rw [e] at b1; exact absurd b1 c
    · have e : i = 1024 := by omega
      subst e
      rw [if_pos (show (1024 : Int32) ≤ nI 1024 from nI_le (a := 1024) (Nat.le_refl _) (by omega))]
      exact ⟨row, bits, rfl, hT⟩
theorem tb_0 (r : Nat → Int32) {j : Nat} (hj : j < 1024) : tb (fill_row 0 32 r) j = false := by
  unfold tb fill_row
  rw [if_pos (by omega), b_0]
/-- tabulate: behind it the table is fresh, and is the truth table -/
theorem tabulate_s {sin sal : Int32} {mo sw code : Nat → Int32} {L : List (Nat × Nat)} (hL : Good L) (hsin : ∀ i, 10 ≤ i → i < 32 → bt sin i = false) (hcode : ∀ j c, L[j]? = some c → code j = nI (c.1 * 16384 + c.2)) (fr ti ts : Int32) (row bits : Nat → Int32) (hfr : ¬ fr = 0 → fr = 1 ∧ ti = sin ∧ Truth sin sal mo sw L bits 1024) :
    ∃ row' ts' bits', F_X6_tabulate sal sin mo sw (nI L.length) code row fr ti ts bits = some (row', 1, sin, ts', bits') ∧ Truth sin sal mo sw L bits' 1024 ∧ (ts' = 0 ∨ (ts' = ts ∧ bits' = bits ∧ fr = 1)) := by
  unfold F_X6_tabulate F_X9_clear
  by_cases c : fr = 0
  · rw [if_pos c, fill_ok 0 bits (by omega), Option.bind_some, Option.bind_some]
    obtain ⟨row', bits', h1, h2⟩ := tab_24 (sal := sal) (mo := mo) (sw := sw) hL hsin hcode fr sin 0 FU 0 row (fill_row 0 32 bits) (by unfold FU; omega) (by omega) (fun j hj => by
      rw [tb_0 _ hj]
      constructor
      · intro q; cases q
      · rintro ⟨q, -⟩; omega)
    rw [nI_0] at h1
    exact ⟨row', 0, bits', h1, h2, Or.inl rfl⟩
  · obtain ⟨e1, e2, e3⟩ := hfr c
    rw [if_neg c, e1, e2]
    exact ⟨row, ts, bits, rfl, e3, Or.inr ⟨rfl, rfl, rfl⟩⟩
/-- passes: by the table or by the code, the same -/
theorem passes_s {sin sal : Int32} {mo sw code : Nat → Int32} {L : List (Nat × Nat)} (hL : Good L) (hsin : ∀ i, 10 ≤ i → i < 32 → bt sin i = false) (hcode : ∀ j c, L[j]? = some c → code j = nI (c.1 * 16384 + c.2)) (fr : Int32) (row bits : Nat → Int32) (hfr : ¬ fr = 0 → Truth sin sal mo sw L bits 1024) {q : Nat} (hq : q < 1024) (hw : (nI q &&& (sin ^^^ (-1))) = 0) :
    ∃ row', F_X6_passes (nI q) sal sin mo sw (nI L.length) code row fr bits = some (says (lfS sin sal mo sw (nI q)) L, row') := by
  obtain ⟨row1, h1, h01⟩ := holds_s (row := row) (lf := lfS sin sal mo sw (nI q)) hL (fun s v a b o => ask_s (nI_hi hq) hsin a b o) (fun v _ => lfS_11 v) hcode
  unfold F_X6_passes
  by_cases c : fr = 0
  · rw [if_pos c, h1, Option.bind_some]
    dsimp only
    exact ⟨row1, by rw [gb, if_pos h01]⟩
  · have hT := hfr c q hq
    rw [if_neg c, at_s hq, Option.bind_some, gb, if_pos (ite01 _)]
    refine ⟨row, ?_⟩
    rcases h01 with z | z
    · rw [if_neg (fun t => by have := (hT.mp t).2.2; rw [z] at this; exact one_ne this.symm), z]
    · rw [if_pos (hT.mpr ⟨hq, hw, z⟩), z]
