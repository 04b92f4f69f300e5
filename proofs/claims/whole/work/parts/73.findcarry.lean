/-! findCarry: the reference's truth table -/
/-- whether a set carries: of those in, and the code says so -/
def crs (sin sal : Int32) (mo sw : Nat → Int32) (L : List (Nat × Nat)) (j : Nat) : Prop := (nI j &&& (sin ^^^ (-1))) = 0 ∧ says (lfS sin sal mo sw (nI j)) L = 1
section FC
variable {mem day tld blo wei : Nat → Int32} {d k : Int32} {N M : Nat}
/-- the reference's row 'carry', up to n -/
def CarryRow (sin sal : Int32) (mo sw : Nat → Int32) (L : List (Nat × Nat)) (ca : Nat → Int32) (n : Nat) : Prop := ∀ j, j < n → (ca j = 0 ∨ ca j = 1) ∧ (ca j = 1 ↔ crs sin sal mo sw L j)
theorem CarryRow.step {sin sal : Int32} {mo sw : Nat → Int32} {L : List (Nat × Nat)} {ca : Nat → Int32} {i : Nat} (h : CarryRow sin sal mo sw L ca i) {v : Int32} (hv : v = 0 ∨ v = 1) (hc : v = 1 ↔ crs sin sal mo sw L i) : CarryRow sin sal mo sw L (upd ca i v) (i + 1) := by
  intro j hj
  by_cases e : j = i
  · subst e; rw [upd_self]; exact ⟨hv, hc⟩
  · rw [upd_ne _ _ e]; exact h j (by omega)
theorem findCarry_6 (hM : M ≤ 10) (hn : N ≤ 200) (hmem : ∀ i, i < N → ∃ mi, mi < M ∧ mem i = nI mi) {sin sal : Int32} {mo sw : Nat → Int32} (S : Seated mem day tld blo wei d k N sin sal mo sw) {L : List (Nat × Nat)} {codes : Int32} {code cm op arg : Nat → Int32} {r : Nat} (hr : r < 4) (R : RuleIs L codes code r cm op arg) (rb rw0 : Nat → Int32) (vd vk NN' : Int32) :
    ∀ (fuel i : Nat) (ca st : Nat → Int32), 1024 - i < fuel → i ≤ 1024 → CarryRow sin sal mo sw L ca i →
      ∃ ca' st', F_X12_findCarry_6 (nI r) (nI M) NN' vd vk arg cm op blo day mem tld wei fuel (nI i) (sAll mem day tld blo d k N M) (sMany mem day tld blo d k N M) (sSum mem day tld blo wei d k N M) (fun j => if j < M then sB mem day tld blo d k N j else rb j) ca st (fun j => if j < M then sW mem day tld blo wei d k N j else rw0 j) =
        some (sAll mem day tld blo d k N M, sMany mem day tld blo d k N M, sSum mem day tld blo wei d k N M, (fun j => if j < M then sB mem day tld blo d k N j else rb j), ca', st', (fun j => if j < M then sW mem day tld blo wei d k N j else rw0 j)) ∧ CarryRow sin sal mo sw L ca' 1024 := by
  have eS : sAll mem day tld blo d k N M = sin := by rw [S.1, sAll10 hM hmem]
  have hsin : ∀ i, 10 ≤ i → i < 32 → bt sin i = false := by rw [S.1]; exact sAll_hi (Nat.le_refl _)
  have n0 : vp_nar .boolean 0 = 0 := by decide
  have n1 : vp_nar .boolean 1 = 1 := by decide
  intro fuel
  induction fuel with
  | zero => intro i ca st h; omega
  | succ n ih =>
    intro i ca st h hi hC
    rw [F_X12_findCarry_6]
    rcases Nat.lt_or_ge i 1024 with hlt | hge
    · rw [if_neg (show ¬ (1024 : Int32) ≤ nI i from nI_ge (b := 1024) hlt (by omega))]
      simp only [gin_n hlt (show 1024 < 2 ^ 31 by omega), nI_clamp (show i < 2 ^ 31 by omega), nI_1, n0, n1]
      by_cases c : (nI i &&& (sAll mem day tld blo d k N M ^^^ (-1))) = 0
      · rw [if_pos c]
        have c' : (nI i &&& (sin ^^^ (-1))) = 0 := by rw [← eS]; exact c
        obtain ⟨st', h2⟩ := carriesBy_seat hM hn hmem S hr R c' st rb rw0
        rw [h2, Option.bind_some]
        dsimp only
        by_cases z : says (lfS sin sal mo sw (nI i)) L = 0
        · rw [if_pos z]
          exact ih (i + 1) _ st' (by omega) (by omega) (hC.step (Or.inl rfl) ⟨fun q => absurd q.symm one_ne, fun q => by have := q.2; rw [z] at this; exact absurd this.symm one_ne⟩)
        · rw [if_neg z]
          have z1 : says (lfS sin sal mo sw (nI i)) L = 1 := by
            obtain ⟨_, _, h01⟩ := holds_s (row := st) (lf := lfS sin sal mo sw (nI i)) R.1 (fun s v a b o => ask_s (sal := sal) (mo := mo) (sw := sw) (nI_hi hlt) hsin a b o) (fun v _ => lfS_11 v) R.2.2.1
            exact h01.resolve_left z
          exact ih (i + 1) _ st' (by omega) (by omega) (hC.step (Or.inr rfl) ⟨fun _ => ⟨c', z1⟩, fun _ => rfl⟩)
      · rw [if_neg c]
        exact ih (i + 1) _ st (by omega) (by omega) (hC.step (Or.inl rfl) ⟨fun q => absurd q.symm one_ne, fun q => absurd (by rw [eS]; exact q.1) c⟩)
    · have e : i = 1024 := by omega
      subst e
      rw [if_pos (show (1024 : Int32) ≤ nI 1024 from nI_le (a := 1024) (Nat.le_refl _) (by omega))]
      exact ⟨ca, st, rfl, hC⟩
theorem findCarry_s (hM : M ≤ 10) (hn : N ≤ 200) (hmem : ∀ i, i < N → ∃ mi, mi < M ∧ mem i = nI mi) {sin sal : Int32} {mo sw : Nat → Int32} (S : Seated mem day tld blo wei d k N sin sal mo sw) {L : List (Nat × Nat)} {codes : Int32} {code cm op arg : Nat → Int32} {r : Nat} (hr : r < 4) (R : RuleIs L codes code r cm op arg) (al ma we : Int32) (ca st rb rw0 : Nat → Int32) :
    ∃ ca' st', F_X12_findCarry (nI r) al ma (nI M) (nI N) d k we arg rb ca cm op blo day mem tld wei st rw0 =
      some (sin, sMany mem day tld blo d k N M, sSum mem day tld blo wei d k N M, (fun j => if j < M then sB mem day tld blo d k N j else rb j), ca', st', (fun j => if j < M then sW mem day tld blo wei d k N j else rw0 j)) ∧ CarryRow sin sal mo sw L ca' 1024 := by
  unfold F_X12_findCarry F_X12_findsView
  rw [finds_s d k hn hM, Option.bind_some, Option.bind_some]
  dsimp only
  obtain ⟨ca', st', h1, h2⟩ := findCarry_6 hM hn hmem S hr R rb rw0 d k (nI N) FU 0 ca st (by unfold FU; omega) (by omega) (fun j hj => by omega)
  rw [nI_0] at h1
  refine ⟨ca', st', ?_, h2⟩
  rw [h1, S.1, sAll10 hM hmem]
/-- the class's table and the reference's row say the same -/
theorem table_row {sin sal : Int32} {mo sw : Nat → Int32} {L : List (Nat × Nat)} {bits ca : Nat → Int32} (hT : Truth sin sal mo sw L bits 1024) (hC : CarryRow sin sal mo sw L ca 1024) {j : Nat} (hj : j < 1024) : ca j = if tb bits j = true then 1 else 0 := by
  obtain ⟨h1, h2⟩ := hC j hj
  have h3 := hT j hj
  by_cases c : tb bits j = true
  · rw [if_pos c]; exact h2.mpr (h3.mp c).2
  · rw [if_neg c]
    rcases h1 with q | q
    · exact q
    · exact absurd (h3.mpr ⟨hj, h2.mp q⟩) c
end FC
