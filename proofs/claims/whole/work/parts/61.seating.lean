/-! WHO SITS WHERE, seen on a day with what was known on a day: one picture for both sides -/
section SEAT
variable (mem day tld blo wei : Nat → Int32) (d k : Int32)
/-- the shift that counts for a member among the first n: its place, or -1 -/
def bst (m : Int32) : Nat → Int32
  | 0 => -1
  | n + 1 => if mem n = m ∧ ¬ k < tld n ∧ day n ≤ d then (if bst m n = -1 then nI n else if day n < day (bst m n).toNatClampNeg then bst m n else nI n) else bst m n
theorem bst_rng (m : Int32) : ∀ n, bst mem day tld d k m n = -1 ∨ ∃ j, j < n ∧ bst mem day tld d k m n = nI j := by
  intro n
  induction n with
  | zero => exact Or.inl rfl
  | succ n ih =>
    have old : bst mem day tld d k m n = -1 ∨ ∃ j, j < n + 1 ∧ bst mem day tld d k m n = nI j := by
      rcases ih with h | ⟨j, h1, h2⟩
      · exact Or.inl h
      · exact Or.inr ⟨j, by omega, h2⟩
    rw [bst]
    split
    · split
      · exact Or.inr ⟨n, by omega, rfl⟩
      · split
        · exact old
        · exact Or.inr ⟨n, by omega, rfl⟩
    · exact old
/-- the bloc of a member (-1: out), its weight (0: out) -/
def sB (N : Nat) (m : Nat) : Int32 := if bst mem day tld d k (nI m) N = -1 then -1 else blo (bst mem day tld d k (nI m) N).toNatClampNeg
def sW (N : Nat) (m : Nat) : Int32 := if sB mem day tld blo d k N m = -1 then 0 else wei (bst mem day tld d k (nI m) N).toNatClampNeg
/-- those in, among the first members; how many; their weight -/
def sAll (N : Nat) : Nat → Int32
  | 0 => 0
  | m + 1 => if sB mem day tld blo d k N m = -1 then sAll N m else sAll N m ||| ((1 : Int32) <<< (nI m &&& 31))
def sMany (N : Nat) : Nat → Int32
  | 0 => 0
  | m + 1 => if sB mem day tld blo d k N m = -1 then sMany N m else sMany N m + 1
def sSum (N : Nat) : Nat → Int32
  | 0 => 0
  | m + 1 => if sB mem day tld blo d k N m = -1 then sSum N m else sSum N m + sW mem day tld blo wei d k N m
end SEAT
theorem neg1_ne {j : Nat} (h : j < 2 ^ 31) : ¬ nI j = -1 := fun e => by
  have := nI_pos h
  rw [e] at this
  exact this (by decide)
/-- the inner loop of finds: the shift that counts -/
theorem finds_31 {mem day tld blo wei : Nat → Int32} {d k : Int32} {N M : Int32} {nN : Nat} (hN : N = nI nN) (hn : nN ≤ 200) (rec17 : Int32 → Int32 → Int32 → Int32 → (Nat → Int32) → (Nat → Int32) → Option (Int32 × Int32 × Int32 × (Nat → Int32) × (Nat → Int32))) (x3 al ma we : Int32) (rb rw : Nat → Int32) :
    ∀ (fuel i : Nat), nN - i < fuel → i ≤ nN → F_X12_finds_31 d k M N blo day mem tld wei rec17 fuel x3 (bst mem day tld d k x3 i) (nI i) al ma we rb rw = F_X12_finds_109 d k M N blo day mem tld wei rec17 x3 (bst mem day tld d k x3 nN) al ma we rb rw := by
  intro fuel
  induction fuel with
  | zero => intro i h; omega
  | succ n ih =>
    intro i h hi
    rw [F_X12_finds_31, hN]
    rcases Nat.lt_or_ge i nN with hlt | hge
    · have hin : ¬ (nI i < 0 ∨ 200 ≤ (nI i).toNatClampNeg) := nI_in (by omega) (by omega)
      have next := ih (i + 1) (by omega) (by omega)
      rw [hN] at next
      rw [if_neg (nI_ge hlt (by omega)), nI_1]
      simp only [gin, if_neg hin]
      rw [nI_clamp (by omega)]
      rw [bst] at next
      by_cases c1 : mem i = x3
      · rw [if_pos c1]
        by_cases c2 : k < tld i
        · rw [if_pos c2]
          rw [if_neg (fun q => q.2.1 c2)] at next
          exact next
        · rw [if_neg c2]
          by_cases c3 : day i ≤ d
          · rw [if_pos c3]
            rw [if_pos ⟨c1, c2, c3⟩] at next
            by_cases c4 : bst mem day tld d k x3 i = -1
            · rw [if_pos c4]
              rw [if_pos c4] at next
              exact next
            · rw [if_neg c4]
              rw [if_neg c4] at next
              obtain ⟨j, hj, ej⟩ : ∃ j, j < i ∧ bst mem day tld d k x3 i = nI j := by
                rcases bst_rng mem day tld d k x3 i with q | q
                · exact absurd q c4
                · exact q
              have hin2 : ¬ (bst mem day tld d k x3 i < 0 ∨ 200 ≤ (bst mem day tld d k x3 i).toNatClampNeg) := by
                rw [ej]; exact nI_in (by omega) (by omega)
              rw [if_neg hin2]
              by_cases c5 : day i < day (bst mem day tld d k x3 i).toNatClampNeg
              · rw [if_pos c5]
                rw [if_pos c5] at next
                exact next
              · rw [if_neg c5]
                rw [if_neg c5] at next
                exact next
          · rw [if_neg c3]
            rw [if_neg (fun q => c3 q.2.2)] at next
            exact next
      · rw [if_neg c1]
        rw [if_neg (fun q => c1 q.1)] at next
        exact next
    · have e : i = nN := by omega
      subst e
      rw [if_pos (nI_le (Nat.le_refl _) (by omega))]
theorem upd_self (f : Nat → Int32) (k : Nat) (x : Int32) : upd f k x k = x := by unfold upd; rw [if_pos rfl]
theorem upd_ne (f : Nat → Int32) {k j : Nat} (x : Int32) (h : j ≠ k) : upd f k x j = f j := by unfold upd; rw [if_neg h]
/-- one member of finds -/
theorem finds_109 {mem day tld blo wei : Nat → Int32} {d k : Int32} {N M : Int32} {nN m : Nat} (hn : nN ≤ 200) (hm : m < 10) (rec17 : Int32 → Int32 → Int32 → Int32 → (Nat → Int32) → (Nat → Int32) → Option (Int32 × Int32 × Int32 × (Nat → Int32) × (Nat → Int32))) (al ma we : Int32) (rb rw : Nat → Int32) :
    F_X12_finds_109 d k M N blo day mem tld wei rec17 (nI m) (bst mem day tld d k (nI m) nN) al ma we rb rw =
      rec17 (nI (m + 1)) (if sB mem day tld blo d k nN m = -1 then al else al ||| ((1 : Int32) <<< (nI m &&& 31))) (if sB mem day tld blo d k nN m = -1 then ma else ma + 1) (if sB mem day tld blo d k nN m = -1 then we else we + sW mem day tld blo wei d k nN m) (upd rb m (sB mem day tld blo d k nN m)) (upd rw m (sW mem day tld blo wei d k nN m)) := by
  have hin : ¬ (nI m < 0 ∨ 10 ≤ (nI m).toNatClampNeg) := nI_in hm (by omega)
  have hcl : (nI m).toNatClampNeg = m := nI_clamp (by omega)
  have key : ∀ (B W : Int32), (B = -1 → W = 0) → F_X12_finds_158 d k M N blo day mem tld wei rec17 (nI m) W (nI m) al ma we (upd rb m B) rw = rec17 (nI (m + 1)) (if B = -1 then al else al ||| ((1 : Int32) <<< (nI m &&& 31))) (if B = -1 then ma else ma + 1) (if B = -1 then we else we + W) (upd rb m B) (upd rw m W) := by
    intro B W hBW
    unfold F_X12_finds_158
    simp only [gin, if_neg hin]
    rw [hcl, upd_self, nI_1]
    by_cases hB : B = -1
    · rw [if_pos hB, if_pos hB, if_pos hB, if_pos hB]
    · rw [if_neg hB, if_neg hB, if_neg hB, if_neg hB, upd_self]
  unfold F_X12_finds_109 F_X12_finds_131
  simp only [gin, if_neg hin]
  rw [hcl]
  by_cases c1 : bst mem day tld d k (nI m) nN = -1
  · have eB : sB mem day tld blo d k nN m = -1 := by unfold sB; rw [if_pos c1]
    have eW : sW mem day tld blo wei d k nN m = 0 := by unfold sW; rw [if_pos eB]
    rw [if_pos c1, upd_self, if_pos rfl, eB, eW]
    exact key (-1) 0 (fun _ => rfl)
  · obtain ⟨j, hj, ej⟩ : ∃ j, j < nN ∧ bst mem day tld d k (nI m) nN = nI j := by
      rcases bst_rng mem day tld d k (nI m) nN with q | q
      · exact absurd q c1
      · exact q
    have hin2 : ¬ (bst mem day tld d k (nI m) nN < 0 ∨ 200 ≤ (bst mem day tld d k (nI m) nN).toNatClampNeg) := by
      rw [ej]; exact nI_in (by omega) (by omega)
    have eB : sB mem day tld blo d k nN m = blo (bst mem day tld d k (nI m) nN).toNatClampNeg := by unfold sB; rw [if_neg c1]
    rw [if_neg c1, if_neg hin2, upd_self, ← eB]
    by_cases c2 : sB mem day tld blo d k nN m = -1
    · have eW : sW mem day tld blo wei d k nN m = 0 := by unfold sW; rw [if_pos c2]
      rw [if_pos c2, eW]
      exact key _ 0 (fun _ => rfl)
    · have eW : sW mem day tld blo wei d k nN m = wei (bst mem day tld d k (nI m) nN).toNatClampNeg := by unfold sW; rw [if_neg c2]
      rw [if_neg c2, if_neg hin2, ← eW]
      exact key _ _ (fun q => absurd q c2)
/-- finds: what the reference finds for a day and what was known -/
theorem finds_17 {mem day tld blo wei : Nat → Int32} {d k : Int32} {N M : Int32} {nN nM : Nat} (hN : N = nI nN) (hn : nN ≤ 200) (hM : M = nI nM) (hm : nM ≤ 10) (rb0 rw0 : Nat → Int32) :
    ∀ (fuel i : Nat), nM - i < fuel → i ≤ nM → F_X12_finds_17 d k M N blo day mem tld wei fuel (nI i) (sAll mem day tld blo d k nN i) (sMany mem day tld blo d k nN i) (sSum mem day tld blo wei d k nN i) (fun j => if j < i then sB mem day tld blo d k nN j else rb0 j) (fun j => if j < i then sW mem day tld blo wei d k nN j else rw0 j) =
      some (sAll mem day tld blo d k nN nM, sMany mem day tld blo d k nN nM, sSum mem day tld blo wei d k nN nM, (fun j => if j < nM then sB mem day tld blo d k nN j else rb0 j), (fun j => if j < nM then sW mem day tld blo wei d k nN j else rw0 j)) := by
  intro fuel
  induction fuel with
  | zero => intro i h; omega
  | succ n ih =>
    intro i h hi
    rw [F_X12_finds_17, hM]
    rcases Nat.lt_or_ge i nM with hlt | hge
    · have f31 := finds_31 (mem := mem) (day := day) (tld := tld) (blo := blo) (wei := wei) (d := d) (k := k) (M := nI nM) hN hn (F_X12_finds_17 d k (nI nM) N blo day mem tld wei n) (nI i) (sAll mem day tld blo d k nN i) (sMany mem day tld blo d k nN i) (sSum mem day tld blo wei d k nN i) (fun j => if j < i then sB mem day tld blo d k nN j else rb0 j) (fun j => if j < i then sW mem day tld blo wei d k nN j else rw0 j) FU 0 (by unfold FU; omega) (by omega)
      rw [nI_0, bst] at f31
      rw [if_neg (nI_ge hlt (by omega)), f31, finds_109 hn (by omega)]
      have next := ih (i + 1) (by omega) (by omega)
      rw [hM] at next
      rw [← next, sAll, sMany, sSum]
      congr 1
      · funext j
        unfold upd
        by_cases hj : j = i
        · subst hj; rw [if_pos rfl, if_pos (by omega)]
        · rw [if_neg hj]
          dsimp only
          by_cases h2 : j < i
          · rw [if_pos h2, if_pos (by omega)]
          · rw [if_neg h2, if_neg (by omega)]
      · funext j
        unfold upd
        by_cases hj : j = i
        · subst hj; rw [if_pos rfl, if_pos (by omega)]
        · rw [if_neg hj]
          dsimp only
          by_cases h2 : j < i
          · rw [if_pos h2, if_pos (by omega)]
          · rw [if_neg h2, if_neg (by omega)]
    · have e : i = nM := by omega
      subst e
      rw [if_pos (nI_le (Nat.le_refl _) (by omega))]
theorem finds_s {mem day tld blo wei : Nat → Int32} (d k : Int32) {nN nM : Nat} (hn : nN ≤ 200) (hm : nM ≤ 10) (al ma we : Int32) (rb0 rw0 : Nat → Int32) :
    F_X12_finds d k al ma (nI nM) (nI nN) we rb0 blo day mem tld wei rw0 =
      some (sAll mem day tld blo d k nN nM, sMany mem day tld blo d k nN nM, sSum mem day tld blo wei d k nN nM, (fun j => if j < nM then sB mem day tld blo d k nN j else rb0 j), (fun j => if j < nM then sW mem day tld blo wei d k nN j else rw0 j)) := by
  unfold F_X12_finds
  have h := finds_17 (mem := mem) (day := day) (tld := tld) (blo := blo) (wei := wei) (d := d) (k := k) (N := nI nN) (M := nI nM) rfl hn rfl hm rb0 rw0 FU 0 (by unfold FU; omega) (by omega)
  rw [nI_0] at h
  simpa [sAll, sMany, sSum] using h
