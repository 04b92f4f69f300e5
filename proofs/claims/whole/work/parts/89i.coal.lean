/-! coalition: places, members, and the best -/
def loP (pl : Nat → Int32) (q : Nat) : Nat → Int32
  | 0 => 100
  | b + 1 => if q.testBit b = true then (if pl b < loP pl q b then pl b else loP pl q b) else loP pl q b
def hiP (pl : Nat → Int32) (q : Nat) : Nat → Int32
  | 0 => 0
  | b + 1 => if q.testBit b = true then (if hiP pl q b < pl b then pl b else hiP pl q b) else hiP pl q b
def spn (pl : Nat → Int32) (q : Nat) : Int32 := hiP pl q 6 - loP pl q 6
section PLC
variable {pl : Nat → Int32} {q : Nat}
theorem smallest_5 : ∀ (fuel b : Nat), 6 - b < fuel → b ≤ 6 → F_X2_smallest_5 (nI q) pl fuel (loP pl q b) (nI b) = some (loP pl q 6) := by
  intro fuel
  induction fuel with
  | zero => intro b h; omega
  | succ n ih =>
    intro b h hb
    rw [F_X2_smallest_5]
    rcases Nat.lt_or_ge b 6 with hlt | hge
    · have next := ih (b + 1) (by omega) (by omega)
      rw [loP] at next
      rw [if_neg (show ¬ (6 : Int32) ≤ nI b from nI_ge (b := 6) hlt (by omega)), has_s _ (show b < 32 by omega), Option.bind_some, gin_n hlt (by omega), nI_clamp (by omega), nI_1, bt_nI (by omega)]
      by_cases c : q.testBit b = true
      · rw [if_pos c] at next
        rw [if_pos c, if_neg one_ne]; exact next
      · rw [if_neg c] at next
        rw [if_neg c, if_pos rfl]; exact next
    · have e : b = 6 := by omega
      subst e
      rw [if_pos (show (6 : Int32) ≤ nI 6 by decide)]
theorem smallest_s : F_X2_smallest (nI q) pl = some (loP pl q 6) := by
  unfold F_X2_smallest
  have h := smallest_5 (pl := pl) (q := q) FU 0 (by unfold FU; omega) (by omega)
  rw [nI_0] at h
  exact h
theorem greatest_4 : ∀ (fuel b : Nat), 6 - b < fuel → b ≤ 6 → F_X2_greatest_4 (nI q) pl fuel (hiP pl q b) (nI b) = some (hiP pl q 6) := by
  intro fuel
  induction fuel with
  | zero => intro b h; omega
  | succ n ih =>
    intro b h hb
    rw [F_X2_greatest_4]
    rcases Nat.lt_or_ge b 6 with hlt | hge
    · have next := ih (b + 1) (by omega) (by omega)
      rw [hiP] at next
      rw [if_neg (show ¬ (6 : Int32) ≤ nI b from nI_ge (b := 6) hlt (by omega)), has_s _ (show b < 32 by omega), Option.bind_some, gin_n hlt (by omega), nI_clamp (by omega), nI_1, bt_nI (by omega)]
      by_cases c : q.testBit b = true
      · rw [if_pos c] at next
        rw [if_pos c, if_neg one_ne]; exact next
      · rw [if_neg c] at next
        rw [if_neg c, if_pos rfl]; exact next
    · have e : b = 6 := by omega
      subst e
      rw [if_pos (show (6 : Int32) ≤ nI 6 by decide)]
theorem greatest_s : F_X2_greatest (nI q) pl = some (hiP pl q 6) := by
  unfold F_X2_greatest
  have h := greatest_4 (pl := pl) (q := q) FU 0 (by unfold FU; omega) (by omega)
  rw [nI_0] at h
  exact h
theorem ite_le (x y : Int32) : (if x ≤ y then x else y) = (if y < x then y else x) := by
  by_cases c : x ≤ y
  · rw [if_pos c, if_neg (Int32.not_lt.mpr c)]
  · rw [if_neg c, if_pos (Int32.not_le.mp c)]
theorem span_8 : ∀ (fuel b : Nat), 6 - b < fuel → b ≤ 6 → F_X12_span_8 (nI q) pl fuel (loP pl q b) (hiP pl q b) (nI b) = some (spn pl q) := by
  intro fuel
  induction fuel with
  | zero => intro b h; omega
  | succ n ih =>
    intro b h hb
    rw [F_X12_span_8]
    unfold F_X12_span_47
    rcases Nat.lt_or_ge b 6 with hlt | hge
    · have next := ih (b + 1) (by omega) (by omega)
      rw [loP, hiP] at next
      rw [if_neg (show ¬ (6 : Int32) ≤ nI b from nI_ge (b := 6) hlt (by omega)), isOf_s _ (show b < 32 by omega), Option.bind_some, bt_nI (by omega)]
      simp only [gin_n hlt (show 6 < 2 ^ 31 by omega), nI_clamp (show b < 2 ^ 31 by omega), nI_1]
      by_cases c : q.testBit b = true
      · rw [if_pos c, if_pos c] at next
        rw [if_pos c, if_neg one_ne]
        by_cases c1 : loP pl q b ≤ pl b
        · rw [if_neg (Int32.not_lt.mpr c1)] at next
          rw [if_pos c1]
          by_cases c2 : pl b ≤ hiP pl q b
          · rw [if_neg (Int32.not_lt.mpr c2)] at next
            rw [if_pos c2]; exact next
          · rw [if_pos (Int32.not_le.mp c2)] at next
            rw [if_neg c2]; exact next
        · rw [if_pos (Int32.not_le.mp c1)] at next
          rw [if_neg c1]
          by_cases c2 : pl b ≤ hiP pl q b
          · rw [if_neg (Int32.not_lt.mpr c2)] at next
            rw [if_pos c2]; exact next
          · rw [if_pos (Int32.not_le.mp c2)] at next
            rw [if_neg c2]; exact next
      · rw [if_neg c, if_neg c] at next
        rw [if_neg c, if_pos rfl]; exact next
    · have e : b = 6 := by omega
      subst e
      rw [if_pos (show (6 : Int32) ≤ nI 6 by decide)]
      rfl
theorem span_s : F_X12_span (nI q) pl = some (spn pl q) := by
  unfold F_X12_span
  have h := span_8 (pl := pl) (q := q) FU 0 (by unfold FU; omega) (by omega)
  rw [nI_0] at h
  exact h
/-- it hangs together -/
def hgP (pl : Nat → Int32) (al q n : Nat) : Prop := ∀ b, b < n → ¬ (al.testBit b = true ∧ q.testBit b = false ∧ loP pl q 6 < pl b ∧ pl b < hiP pl q 6)
theorem hangsT_16 {al : Nat} : ∀ (fuel b : Nat), 6 - b < fuel → b ≤ 6 → hgP pl al q b → ∃ v, F_X2_hangsTogether_16 (nI q) (nI al) pl fuel (loP pl q 6) (hiP pl q 6) (nI b) = some v ∧ (v = 0 ∨ v = 1) ∧ (v = 1 ↔ hgP pl al q 6) := by
  intro fuel
  induction fuel with
  | zero => intro b h; omega
  | succ n ih =>
    intro b h hb hh
    rw [F_X2_hangsTogether_16]
    rcases Nat.lt_or_ge b 6 with hlt | hge
    · have go : ¬ (al.testBit b = true ∧ q.testBit b = false ∧ loP pl q 6 < pl b ∧ pl b < hiP pl q 6) → hgP pl al q (b + 1) := by
        intro hs b' hb'
        by_cases e : b' = b
        · subst e; exact hs
        · exact hh b' (by omega)
      rw [if_neg (show ¬ (6 : Int32) ≤ nI b from nI_ge (b := 6) hlt (by omega)), has_s _ (show b < 32 by omega), Option.bind_some, gin_n hlt (by omega), gin_n hlt (by omega), nI_clamp (by omega), nI_1, b_and, b_not _ (by omega), bt_nI (by omega), bt_nI (by omega)]
      by_cases c : (al.testBit b && !q.testBit b) = true
      · rw [if_pos c, if_neg one_ne]
        rw [Bool.and_eq_true, Bool.not_eq_true'] at c
        by_cases c1 : pl b ≤ loP pl q 6
        · rw [if_pos c1]
          exact ih (b + 1) (by omega) (by omega) (go (fun z => absurd z.2.2.1 (Int32.not_lt.mpr c1)))
        · rw [if_neg c1]
          by_cases c2 : hiP pl q 6 ≤ pl b
          · rw [if_pos c2]
            exact ih (b + 1) (by omega) (by omega) (go (fun z => absurd z.2.2.2 (Int32.not_lt.mpr c2)))
          · rw [if_neg c2]
            exact ⟨0, rfl, Or.inl rfl, fun e => absurd e.symm one_ne, fun e => absurd ⟨c.1, c.2, Int32.not_le.mp c1, Int32.not_le.mp c2⟩ (e b hlt)⟩
      · rw [if_neg c, if_pos rfl]
        exact ih (b + 1) (by omega) (by omega) (go (fun z => c (by rw [z.1, z.2.1]; rfl)))
    · have e : b = 6 := by omega
      subst e
      rw [if_pos (show (6 : Int32) ≤ nI 6 by decide)]
      exact ⟨1, rfl, Or.inr rfl, fun _ => hh, fun _ => rfl⟩
theorem hangs_78 {al : Nat} : ∀ (fuel b : Nat), 6 - b < fuel → b ≤ 6 → hgP pl al q b → ∃ v, F_X12_hangs_78 (nI q) (nI al) pl fuel (loP pl q 6) (hiP pl q 6) (nI b) = some v ∧ (v = 0 ∨ v = 1) ∧ (v = 1 ↔ hgP pl al q 6) := by
  intro fuel
  induction fuel with
  | zero => intro b h; omega
  | succ n ih =>
    intro b h hb hh
    rw [F_X12_hangs_78]
    rcases Nat.lt_or_ge b 6 with hlt | hge
    · have go : ¬ (al.testBit b = true ∧ q.testBit b = false ∧ loP pl q 6 < pl b ∧ pl b < hiP pl q 6) → hgP pl al q (b + 1) := by
        intro hs b' hb'
        by_cases e : b' = b
        · subst e; exact hs
        · exact hh b' (by omega)
      rw [if_neg (show ¬ (6 : Int32) ≤ nI b from nI_ge (b := 6) hlt (by omega)), isOf_s _ (show b < 32 by omega), isOf_s _ (show b < 32 by omega), Option.bind_some, Option.bind_some, gin_n hlt (by omega), gin_n hlt (by omega), nI_clamp (by omega), nI_1, bt_nI (by omega), bt_nI (by omega)]
      by_cases c : al.testBit b = true
      · rw [if_pos c, if_neg one_ne]
        by_cases c0 : q.testBit b = true
        · rw [if_pos c0, if_neg one_ne]
          exact ih (b + 1) (by omega) (by omega) (go (fun z => by rw [c0] at z; cases z.2.1))
        · rw [if_neg c0, if_pos rfl]
          by_cases c1 : pl b ≤ loP pl q 6
          · rw [if_pos c1]
            exact ih (b + 1) (by omega) (by omega) (go (fun z => absurd z.2.2.1 (Int32.not_lt.mpr c1)))
          · rw [if_neg c1]
            by_cases c2 : hiP pl q 6 ≤ pl b
            · rw [if_pos c2]
              exact ih (b + 1) (by omega) (by omega) (go (fun z => absurd z.2.2.2 (Int32.not_lt.mpr c2)))
            · rw [if_neg c2]
              exact ⟨0, rfl, Or.inl rfl, fun e => absurd e.symm one_ne, fun e => absurd ⟨c, by simpa using c0, Int32.not_le.mp c1, Int32.not_le.mp c2⟩ (e b hlt)⟩
      · rw [if_neg c, if_pos rfl]
        exact ih (b + 1) (by omega) (by omega) (go (fun z => c z.1))
    · have e : b = 6 := by omega
      subst e
      rw [if_pos (show (6 : Int32) ≤ nI 6 by decide)]
      exact ⟨1, rfl, Or.inr rfl, fun _ => hh, fun _ => rfl⟩
theorem hangs_9 {al : Nat} : ∀ (fuel b : Nat), 6 - b < fuel → b ≤ 6 → F_X12_hangs_9 (nI q) (nI al) pl fuel (loP pl q b) (hiP pl q b) (nI b) = F_X12_hangs_78 (nI q) (nI al) pl FU (loP pl q 6) (hiP pl q 6) 0 := by
  intro fuel
  induction fuel with
  | zero => intro b h; omega
  | succ n ih =>
    intro b h hb
    rw [F_X12_hangs_9]
    unfold F_X12_hangs_48
    rcases Nat.lt_or_ge b 6 with hlt | hge
    · have next := ih (b + 1) (by omega) (by omega)
      rw [loP, hiP] at next
      rw [if_neg (show ¬ (6 : Int32) ≤ nI b from nI_ge (b := 6) hlt (by omega)), isOf_s _ (show b < 32 by omega), Option.bind_some, bt_nI (by omega), gin_n hlt (by omega), gin_n hlt (by omega), gin_n hlt (by omega), gin_n hlt (by omega), gin_n hlt (by omega), gin_n hlt (by omega), nI_clamp (by omega), nI_1]
      by_cases c : q.testBit b = true
      · rw [if_pos c, if_pos c] at next
        rw [if_pos c, if_neg one_ne]
        by_cases c1 : loP pl q b ≤ pl b
        · rw [if_neg (Int32.not_lt.mpr c1)] at next
          rw [if_pos c1]
          by_cases c2 : pl b ≤ hiP pl q b
          · rw [if_neg (Int32.not_lt.mpr c2)] at next
            rw [if_pos c2]; exact next
          · rw [if_pos (Int32.not_le.mp c2)] at next
            rw [if_neg c2]; exact next
        · rw [if_pos (Int32.not_le.mp c1)] at next
          rw [if_neg c1]
          by_cases c2 : pl b ≤ hiP pl q b
          · rw [if_neg (Int32.not_lt.mpr c2)] at next
            rw [if_pos c2]; exact next
          · rw [if_pos (Int32.not_le.mp c2)] at next
            rw [if_neg c2]; exact next
      · rw [if_neg c, if_neg c] at next
        rw [if_neg c, if_pos rfl]; exact next
    · have e : b = 6 := by omega
      subst e
      rw [if_pos (show (6 : Int32) ≤ nI 6 by decide)]
/-- both sides on 'hangs together' -/
theorem hangs_same (al : Nat) : ∃ v, F_X2_hangsTogether (nI q) (nI al) pl = some v ∧ F_X12_hangs (nI q) (nI al) pl = some v := by
  obtain ⟨v, a1, a2, a3⟩ := hangsT_16 (pl := pl) (q := q) (al := al) FU 0 (by unfold FU; omega) (by omega) (fun b hb => by omega)
  obtain ⟨w, b1, b2, b3⟩ := hangs_78 (pl := pl) (q := q) (al := al) FU 0 (by unfold FU; omega) (by omega) (fun b hb => by omega)
  have h9 := hangs_9 (pl := pl) (q := q) (al := al) FU 0 (by unfold FU; omega) (by omega)
  have e := v01_eq a2 b2 a3 b3
  subst e
  rw [nI_0] at a1 b1 h9
  refine ⟨v, ?_, ?_⟩
  · unfold F_X2_hangsTogether
    rw [smallest_s, greatest_s, Option.bind_some, Option.bind_some, a1]
  · unfold F_X12_hangs
    rw [show F_X12_hangs_9 (nI q) (nI al) pl FU 100 0 0 = F_X12_hangs_78 (nI q) (nI al) pl FU (loP pl q 6) (hiP pl q 6) 0 from h9, b1]
end PLC
/-! the members of a coalition -/
def mqB (mo : Nat → Int32) (q : Nat) : Nat → Int32
  | 0 => 0
  | b + 1 => if q.testBit b = true then mqB mo q b ||| mo b else mqB mo q b
theorem mqB_bt {mo : Nat → Int32} {q i : Nat} : ∀ n, bt (mqB mo q n) i = true ↔ ∃ b, b < n ∧ q.testBit b = true ∧ bt (mo b) i = true := by
  intro n
  induction n with
  | zero => rw [mqB, b_0]; simp
  | succ n ih =>
    rw [mqB]
    by_cases c : q.testBit n = true
    · rw [if_pos c, b_or, Bool.or_eq_true, ih]
      constructor
      · rintro (⟨b, h1, h2⟩ | h)
        · exact ⟨b, by omega, h2⟩
        · exact ⟨n, by omega, c, h⟩
      · rintro ⟨b, h1, h2, h3⟩
        by_cases e : b = n
        · subst e; exact Or.inr h3
        · exact Or.inl ⟨b, by omega, h2, h3⟩
    · rw [if_neg c, ih]
      constructor
      · rintro ⟨b, h1, h2⟩; exact ⟨b, by omega, h2⟩
      · rintro ⟨b, h1, h2, h3⟩
        by_cases e : b = n
        · subst e; exact absurd h2 c
        · exact ⟨b, by omega, h2, h3⟩
theorem ofBlocs_4 {mo : Nat → Int32} {q : Nat} : ∀ (fuel b : Nat), 6 - b < fuel → b ≤ 6 → F_X7_ofBlocs_4 (nI q) mo fuel (mqB mo q b) (nI b) = some (mqB mo q 6) := by
  intro fuel
  induction fuel with
  | zero => intro b h; omega
  | succ n ih =>
    intro b h hb
    rw [F_X7_ofBlocs_4]
    rcases Nat.lt_or_ge b 6 with hlt | hge
    · have next := ih (b + 1) (by omega) (by omega)
      rw [mqB] at next
      rw [if_neg (show ¬ (6 : Int32) ≤ nI b from nI_ge (b := 6) hlt (by omega)), has_s _ (show b < 32 by omega), Option.bind_some, gin_n hlt (by omega), nI_clamp (by omega), nI_1, bt_nI (by omega)]
      by_cases c : q.testBit b = true
      · rw [if_pos c] at next
        rw [if_pos c, if_neg one_ne]; exact next
      · rw [if_neg c] at next
        rw [if_neg c, if_pos rfl]; exact next
    · have e : b = 6 := by omega
      subst e
      rw [if_pos (show (6 : Int32) ≤ nI 6 by decide)]
theorem ofBlocs_s {mo : Nat → Int32} {q : Nat} : F_X7_ofBlocs (nI q) mo = some (mqB mo q 6) := by
  unfold F_X7_ofBlocs
  have h := ofBlocs_4 (mo := mo) (q := q) FU 0 (by unfold FU; omega) (by omega)
  rw [nI_0, mqB] at h
  exact h
/-- the reference's, member by member -/
def cutB (x : Int32) : Nat → Int32
  | 0 => 0
  | m + 1 => if bt x m = true then cutB x m ||| ((1 : Int32) <<< (nI m &&& 31)) else cutB x m
theorem cutB_bt {x : Int32} : ∀ n, n ≤ 32 → ∀ i, i < 32 → bt (cutB x n) i = (decide (i < n) && bt x i) := by
  intro n
  induction n with
  | zero => intro _ i _; rw [cutB, b_0]; simp
  | succ n ih =>
    intro hn i hi
    have h := ih (by omega) i hi
    rw [cutB]
    by_cases c : bt x n = true
    · rw [if_pos c, b_or, h, b_one (by omega) hi]
      by_cases e : i = n
      · subst e; simp [c]
      · have : decide (i < n + 1) = decide (i < n) := decide_eq_decide.mpr (by omega)
        rw [this, decide_eq_false e, Bool.or_false]
    · rw [if_neg c, h]
      by_cases e : i = n
      · subst e; simp [c]
      · have : decide (i < n + 1) = decide (i < n) := decide_eq_decide.mpr (by omega)
        rw [this]
theorem membersOf_4 {al x : Int32} {bl : Nat → Int32} {q M : Nat} (hM : M ≤ 10) (hb : ∀ m, m < M → bt al m = true → ∃ b, b < 6 ∧ bl m = nI b) (hx : ∀ m b, m < M → b < 6 → bt al m = true → bl m = nI b → (bt x m = true ↔ q.testBit b = true)) (hx0 : ∀ m, m < M → ¬ bt al m = true → ¬ bt x m = true) :
    ∀ (fuel m : Nat), M - m < fuel → m ≤ M → F_X12_membersOf_4 (nI q) al (nI M) bl fuel (cutB x m) (nI m) = some (cutB x M) := by
  intro fuel
  induction fuel with
  | zero => intro m h; omega
  | succ n ih =>
    intro m h hm
    rw [F_X12_membersOf_4]
    rcases Nat.lt_or_ge m M with hlt | hge
    · have next := ih (m + 1) (by omega) (by omega)
      rw [cutB] at next
      rw [if_neg (nI_ge hlt (by omega)), isOf_s _ (show m < 32 by omega), Option.bind_some, gin_n (show m < 10 by omega) (by omega), nI_clamp (by omega), nI_1]
      by_cases c : bt al m = true
      · obtain ⟨b, hb6, eb⟩ := hb m hlt c
        have hxx := hx m b hlt hb6 c eb
        rw [if_pos c, if_neg one_ne, eb, isOf_s _ (show b < 32 by omega), Option.bind_some, bt_nI (by omega)]
        by_cases c2 : q.testBit b = true
        · rw [if_pos (hxx.mpr c2)] at next
          rw [if_pos c2, if_neg one_ne]; exact next
        · rw [if_neg (fun z => c2 (hxx.mp z))] at next
          rw [if_neg c2, if_pos rfl]; exact next
      · rw [if_neg (hx0 m hlt c)] at next
        rw [if_neg c, if_pos rfl]; exact next
    · have e : m = M := by omega
      subst e
      rw [if_pos (nI_le (Nat.le_refl _) (by omega))]
section MO
variable {mem day tld blo wei : Nat → Int32} {d k : Int32} {N M : Nat}
theorem mqB_in (hM : M ≤ 10) (hmem : ∀ i, i < N → ∃ mi, mi < M ∧ mem i = nI mi) {sin sal : Int32} {mo sw : Nat → Int32} (S : Seated mem day tld blo wei d k N sin sal mo sw) (q : Nat) : ∀ i, i < 32 → bt (mqB mo q 6) i = true → bt sin i = true ∧ i < M := by
  intro i hi h
  obtain ⟨b, h1, h2, h3⟩ := (mqB_bt 6).mp h
  rw [S.2.2.1 b h1, sOf_bt b 10 (by omega) i hi, Bool.and_eq_true, decide_eq_true_iff, decide_eq_true_iff] at h3
  have hne : ¬ sB mem day tld blo d k N i = -1 := by rw [h3.2]; exact neg1_ne (by omega)
  refine ⟨?_, ?_⟩
  · rw [S.1, sAll_bt 10 (by omega) i hi, decide_eq_true h3.1, Bool.true_and, decide_eq_true_iff]; exact hne
  · rcases Nat.lt_or_ge i M with c | c
    · exact c
    · exact absurd (sB_big hmem c (by omega)) hne
theorem mqB_win (hM : M ≤ 10) (hmem : ∀ i, i < N → ∃ mi, mi < M ∧ mem i = nI mi) {sin sal : Int32} {mo sw : Nat → Int32} (S : Seated mem day tld blo wei d k N sin sal mo sw) (q : Nat) : (mqB mo q 6 &&& (sin ^^^ (-1))) = 0 := by
  rw [win_iff]
  exact fun i hi h => (mqB_in hM hmem S q i hi h).1
theorem membersOf_s (hM : M ≤ 10) (hn : N ≤ 200) (hmem : ∀ i, i < N → ∃ mi, mi < M ∧ mem i = nI mi) (hblo : ∀ i, i < N → blo i = -1 ∨ ∃ b, b < 6 ∧ blo i = nI b) {sin sal : Int32} {mo sw : Nat → Int32} (S : Seated mem day tld blo wei d k N sin sal mo sw) (q : Nat) (rb : Nat → Int32) :
    F_X12_membersOf (nI q) sin (nI M) (fun j => if j < M then sB mem day tld blo d k N j else rb j) = some (mqB mo q 6) := by
  have hin : ∀ m, m < M → (bt sin m = true ↔ ¬ sB mem day tld blo d k N m = -1) := fun m hm => by
    rw [S.1, sAll_bt 10 (by omega) m (by omega), decide_eq_true (show m < 10 by omega), Bool.true_and, decide_eq_true_iff]
  unfold F_X12_membersOf
  have h := membersOf_4 (al := sin) (x := mqB mo q 6) (bl := fun j => if j < M then sB mem day tld blo d k N j else rb j) (q := q) hM (fun m hm hs => by
    show ∃ b, b < 6 ∧ (if m < M then sB mem day tld blo d k N m else rb m) = nI b
    rw [if_pos hm]
    rcases sB_rng (mem := mem) (day := day) (tld := tld) (d := d) (k := k) hn hblo m with z | z
    · exact absurd z ((hin m hm).mp hs)
    · exact z) (fun m b hm hb hs e => by
    have e' : (if m < M then sB mem day tld blo d k N m else rb m) = nI b := e
    rw [if_pos hm] at e'
    rw [mqB_bt]
    constructor
    · rintro ⟨c, c1, c2, c3⟩
      rw [S.2.2.1 c c1, sOf_bt c 10 (by omega) m (by omega), Bool.and_eq_true, decide_eq_true_iff, decide_eq_true_iff, e', nI_eq (by omega) (by omega)] at c3
      rw [c3.2]; exact c2
    · intro hq
      refine ⟨b, hb, hq, ?_⟩
      rw [S.2.2.1 b hb, sOf_bt b 10 (by omega) m (by omega), decide_eq_true (show m < 10 by omega), Bool.true_and, decide_eq_true_iff]
      exact e') (fun m hm hs hx => hs (mqB_in hM hmem S q m (by omega) hx).1) FU 0 (by unfold FU; omega) (by omega)
  rw [nI_0, cutB] at h
  rw [h]
  congr 1
  apply b_ext
  intro i hi
  rw [cutB_bt M (by omega) i hi]
  cases hx : bt (mqB mo q 6) i
  · rw [Bool.and_false]
  · rw [decide_eq_true (mqB_in hM hmem S q i hi hx).2]; rfl
/-- the weight of a set of those in: both sides -/
theorem weight_s (hM : M ≤ 10) {sin sal : Int32} {mo sw : Nat → Int32} (S : Seated mem day tld blo wei d k N sin sal mo sw) {x : Int32} (hx : ∀ i, i < 32 → bt x i = true → i < M) (rb rw0 : Nat → Int32) :
    F_X12_weightOf x (-1) (nI M) (fun j => if j < M then sB mem day tld blo d k N j else rb j) (fun j => if j < M then sW mem day tld blo wei d k N j else rw0 j) = some (wSum sw x 10) := by
  rw [mweightOf_s hM, wB_all _ _ _ sw M (fun m hm => by
    show (if m < M then sW mem day tld blo wei d k N m else rw0 m) = sw m
    rw [if_pos hm, S.2.2.2 m (by omega)])]
  have := wSum_hi (w := sw) (x := x) (a := M) (10 - M) (fun i a b => by
    cases c : bt x i
    · rfl
    · have := hx i (by omega) c; omega)
  rw [show M + (10 - M) = 10 by omega] at this
  rw [this]
end MO
