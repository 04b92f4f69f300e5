/-! trade: the reference's side -/
theorem pow3 (m : Nat) : (3 : Int32) * nI (3 ^ m) = nI (3 ^ (m + 1)) := by
  rw [show (3 : Int32) = nI 3 from rfl, pk_mul, Nat.pow_succ, Nat.mul_comm]
theorem threes_20 {q : Nat} (hq : q < 1024) (rec2 : Int32 → (Nat → Int32) → Option (Nat → Int32)) : ∀ (fuel m : Nat) (th : Nat → Int32), 10 - m < fuel → m ≤ 10 → th q = nI (thr q m) →
    ∃ th', F_X12_findThrees_20 rec2 fuel (nI q) (nI (3 ^ m)) (nI m) th = rec2 (nI (q + 1)) th' ∧ th' q = nI (thr q 10) ∧ ∀ j, j ≠ q → th' j = th j := by
  intro fuel
  induction fuel with
  | zero => intro m th h; omega
  | succ n ih =>
    intro m th h hm ht
    rw [F_X12_findThrees_20]
    rcases Nat.lt_or_ge m 10 with hlt | hge
    · rw [if_neg (show ¬ (10 : Int32) ≤ nI m from nI_ge (b := 10) hlt (by omega)), isOf_s _ (show m < 32 by omega), Option.bind_some, gin_n hq (by omega), gin_n hq (by omega), nI_clamp (by omega), nI_1, pow3, bt_nI (by omega)]
      by_cases c : q.testBit m = true
      · rw [if_pos c, if_neg one_ne]
        obtain ⟨th', h1, h2, h3⟩ := ih (m + 1) (upd th q (th q + nI (3 ^ m))) (by omega) (by omega) (by rw [upd_self, ht, nI_add, thr, bN, if_pos c, Nat.one_mul])
        exact ⟨th', h1, h2, fun j hj => by rw [h3 j hj, upd_ne _ _ hj]⟩
      · rw [if_neg c, if_pos rfl]
        exact ih (m + 1) th (by omega) (by omega) (by rw [ht, thr, bN, if_neg c, Nat.zero_mul, Nat.add_zero])
    · have e : m = 10 := by omega
      subst e
      rw [if_pos (show (10 : Int32) ≤ nI 10 from nI_le (a := 10) (Nat.le_refl _) (by omega)), nI_1]
      exact ⟨th, rfl, ht, fun _ _ => rfl⟩
theorem threes_2 : ∀ (fuel q : Nat) (th : Nat → Int32), 1024 - q < fuel → q ≤ 1024 → (∀ j, j < q → th j = nI (thr j 10)) → ∃ th', F_X12_findThrees_2 fuel (nI q) th = some th' ∧ ∀ j, j < 1024 → th' j = nI (thr j 10) := by
  intro fuel
  induction fuel with
  | zero => intro q th h; omega
  | succ n ih =>
    intro q th h hq hS
    rw [F_X12_findThrees_2]
    rcases Nat.lt_or_ge q 1024 with hlt | hge
    · obtain ⟨th', h1, h2, h3⟩ := threes_20 hlt (F_X12_findThrees_2 n) FU 0 (upd th q 0) (by unfold FU; omega) (by omega) (by rw [upd_self]; rfl)
      rw [nI_0, show nI (3 ^ 0) = (1 : Int32) from rfl] at h1
      rw [if_neg (show ¬ (1024 : Int32) ≤ nI q from nI_ge (b := 1024) hlt (by omega)), gin_n hlt (by omega), nI_clamp (by omega), h1]
      exact ih (q + 1) th' (by omega) (by omega) (fun j hj => by
        by_cases e : j = q
        · rw [e]; exact h2
        · rw [h3 j e, upd_ne _ _ e]; exact hS j (by omega))
    · have e : q = 1024 := by omega
      subst e
      rw [if_pos (show (1024 : Int32) ≤ nI 1024 from nI_le (a := 1024) (Nat.le_refl _) (by omega))]
      exact ⟨th, rfl, hS⟩
theorem threes_s (th : Nat → Int32) : ∃ th', F_X12_findThrees th = some th' ∧ ∀ j, j < 1024 → th' j = nI (thr j 10) := by
  unfold F_X12_findThrees
  have h := threes_2 FU 0 th (by unfold FU; omega) (by omega) (fun j hj => by omega)
  rw [nI_0] at h
  exact h
section LO
variable {kin : Nat} {bits ca th : Nat → Int32}
theorem losing_6 : ∀ (fuel k : Nat) (lo : Nat → Int32), 59049 - k < fuel → k ≤ 59049 → (∀ j, j < k → lo j = -1) → ∃ lo', F_X12_findLosing_6 (nI kin) ca fuel (nI k) lo th = F_X12_findLosing_27 (nI kin) ca FU 0 lo' th ∧ ∀ j, j < 59049 → lo' j = -1 := by
  intro fuel
  induction fuel with
  | zero => intro k lo h; omega
  | succ n ih =>
    intro k lo h hk hS
    rw [F_X12_findLosing_6]
    rcases Nat.lt_or_ge k 59049 with hlt | hge
    · rw [if_neg (show ¬ (59049 : Int32) ≤ nI k from nI_ge (b := 59049) hlt (by omega)), gin_n hlt (by omega), nI_clamp (by omega), nI_1]
      exact ih (k + 1) _ (by omega) (by omega) (fun j hj => by
        by_cases e : j = k
        · rw [e, upd_self]
        · rw [upd_ne _ _ e]; exact hS j (by omega))
    · have e : k = 59049 := by omega
      subst e
      rw [if_pos (show (59049 : Int32) ≤ nI 59049 from nI_le (a := 59049) (Nat.le_refl _) (by omega))]
      exact ⟨lo, rfl, hS⟩
def LoS (kin : Nat) (bits lo : Nat → Int32) (n : Nat) : Prop := ∀ k, k < 59049 → (lo k = -1 ∧ ∀ c, c < n → ¬ LosP kin bits c k) ∨ (∃ c, c < n ∧ lo k = nI c ∧ LosP kin bits c k ∧ ∀ c', c' < c → ¬ LosP kin bits c' k)
def LoQ (kin : Nat) (bits : Nat → Int32) (c d k : Nat) : Prop := ∃ d', c < d' ∧ d' < d ∧ ncr kin bits d' ∧ thr c 10 + thr d' 10 = k
def LoI (kin : Nat) (bits lo : Nat → Int32) (c d : Nat) : Prop := ∀ k, k < 59049 → (lo k = -1 ∧ (∀ c', c' < c → ¬ LosP kin bits c' k) ∧ ¬ LoQ kin bits c d k) ∨ (∃ c', c' < c ∧ lo k = nI c' ∧ LosP kin bits c' k ∧ ∀ c2, c2 < c' → ¬ LosP kin bits c2 k) ∨ (lo k = nI c ∧ LoQ kin bits c d k ∧ ∀ c', c' < c → ¬ LosP kin bits c' k)
theorem LoQ_skip {c d k : Nat} (h : ¬ (c < d ∧ ncr kin bits d ∧ thr c 10 + thr d 10 = k)) : LoQ kin bits c (d + 1) k ↔ LoQ kin bits c d k := by
  constructor
  · rintro ⟨d', a, b, c1, e⟩
    by_cases q : d' = d
    · subst q; exact absurd ⟨a, c1, e⟩ h
    · exact ⟨d', a, by omega, c1, e⟩
  · rintro ⟨d', a, b, e⟩; exact ⟨d', a, by omega, e⟩
theorem losing_58 (hk : kin < 1024) (hca : ∀ z, z < 1024 → ca z = if tb bits z = true then 1 else 0) (hth : ∀ j, j < 1024 → th j = nI (thr j 10)) {c : Nat} (hc : c < 1024) (rec27 : Int32 → (Nat → Int32) → (Nat → Int32) → Option ((Nat → Int32) × (Nat → Int32))) :
    ∀ (fuel d : Nat) (lo : Nat → Int32), 1024 - d < fuel → d ≤ 1024 → c < d → LoI kin bits lo c d → ∃ lo', F_X12_findLosing_58 (nI kin) ca rec27 fuel (nI c) (nI d) lo th = rec27 (nI (c + 1)) lo' th ∧ LoI kin bits lo' c 1024 := by
  intro fuel
  induction fuel with
  | zero => intro d lo h; omega
  | succ n ih =>
    intro d lo h hd hcd hI
    rw [F_X12_findLosing_58]
    rcases Nat.lt_or_ge d 1024 with hlt | hge
    · have g1 := thr_10 c
      have g2 := thr_10 d
      have hk0 : thr c 10 + thr d 10 < 59049 := by omega
      rw [if_neg (show ¬ (1024 : Int32) ≤ nI d from nI_ge (b := 1024) hlt (by omega)), isSet_s (nI_hi hk), isWithin_s, Option.bind_some, nI_1]
      simp only [gin_n hlt (show 1024 < 2 ^ 31 by omega), gin_n hc (show 1024 < 2 ^ 31 by omega), nI_clamp (show d < 2 ^ 31 by omega), nI_clamp (show c < 2 ^ 31 by omega), hth c hc, hth d hlt, nI_add, gin_n hk0 (show 59049 < 2 ^ 31 by omega), nI_clamp (show thr c 10 + thr d 10 < 2 ^ 31 by omega), hca d hlt]
      have skip : (∀ k, k < 59049 → lo k ≠ -1 ∨ ¬ (c < d ∧ ncr kin bits d ∧ thr c 10 + thr d 10 = k)) → ∃ lo', F_X12_findLosing_58 (nI kin) ca rec27 n (nI c) (nI (d + 1)) lo th = rec27 (nI (c + 1)) lo' th ∧ LoI kin bits lo' c 1024 := by
        intro hs
        refine ih (d + 1) lo (by omega) (by omega) (by omega) (fun k hk' => ?_)
        rcases hI k hk' with ⟨e, a, b⟩ | a | ⟨e, ⟨d', b1, b2, b3⟩, b⟩
        · refine Or.inl ⟨e, a, ?_⟩
          rw [LoQ_skip ((hs k hk').resolve_left (fun z => z e))]; exact b
        · exact Or.inr (Or.inl a)
        · exact Or.inr (Or.inr ⟨e, ⟨d', b1, by omega, b3⟩, b⟩)
      by_cases c1 : (nI d &&& (nI kin ^^^ (-1))) = 0
      · have hw := (win_sub hlt hk).mp c1
        rw [if_pos c1, if_neg one_ne]
        by_cases c2 : tb bits d = true
        · rw [if_pos c2, if_neg one_ne]
          exact skip (fun k _ => Or.inr (fun z => by have := z.2.1.2; rw [c2] at this; cases this))
        · rw [if_neg c2, if_pos rfl]
          by_cases c3 : lo (thr c 10 + thr d 10) = -1
          · rw [if_pos c3]
            refine ih (d + 1) _ (by omega) (by omega) (by omega) (fun k hk' => ?_)
            by_cases e : k = thr c 10 + thr d 10
            · subst e
              rcases hI _ hk' with ⟨_, a, b⟩ | ⟨c', a, b, _⟩ | ⟨b, _⟩
              · exact Or.inr (Or.inr ⟨by rw [upd_self], ⟨d, hcd, by omega, ⟨hw, by simpa using c2⟩, rfl⟩, a⟩)
              · rw [c3] at b; exact absurd b.symm (neg1_ne (by omega))
              · rw [c3] at b; exact absurd b.symm (neg1_ne (by omega))
            · rw [upd_ne _ _ e, LoQ_skip (fun z => e z.2.2.symm)]
              exact hI k hk'
          · rw [if_neg c3]
            refine skip (fun k _ => ?_)
            by_cases e : k = thr c 10 + thr d 10
            · left; rw [e]; exact c3
            · right; exact fun z => e z.2.2.symm
      · rw [if_neg c1, if_pos rfl]
        exact skip (fun k _ => Or.inr (fun z => c1 ((win_sub hlt hk).mpr z.2.1.1)))
    · have e : d = 1024 := by omega
      subst e
      rw [if_pos (show (1024 : Int32) ≤ nI 1024 from nI_le (a := 1024) (Nat.le_refl _) (by omega)), nI_1]
      exact ⟨lo, rfl, hI⟩
theorem losing_27 (hk : kin < 1024) (hca : ∀ z, z < 1024 → ca z = if tb bits z = true then 1 else 0) (hth : ∀ j, j < 1024 → th j = nI (thr j 10)) :
    ∀ (fuel c : Nat) (lo : Nat → Int32), 1024 - c < fuel → c ≤ 1024 → LoS kin bits lo c → ∃ lo', F_X12_findLosing_27 (nI kin) ca fuel (nI c) lo th = some (lo', th) ∧ LoS kin bits lo' 1024 := by
  intro fuel
  induction fuel with
  | zero => intro c lo h; omega
  | succ n ih =>
    intro c lo h hc hS
    rw [F_X12_findLosing_27]
    rcases Nat.lt_or_ge c 1024 with hlt | hge
    · rw [if_neg (show ¬ (1024 : Int32) ≤ nI c from nI_ge (b := 1024) hlt (by omega)), isSet_s (nI_hi hk), isWithin_s, Option.bind_some, nI_1, gin_n hlt (by omega), nI_clamp (by omega), hca c hlt]
      have skip : ¬ ncr kin bits c → ∃ lo', F_X12_findLosing_27 (nI kin) ca n (nI (c + 1)) lo th = some (lo', th) ∧ LoS kin bits lo' 1024 := by
        intro hno
        refine ih (c + 1) lo (by omega) (by omega) (fun k hk' => ?_)
        rcases hS k hk' with ⟨e, a⟩ | ⟨c', a, b⟩
        · refine Or.inl ⟨e, fun c' hc' => ?_⟩
          by_cases q : c' = c
          · rw [q]; exact fun z => hno z.1
          · exact a c' (by omega)
        · exact Or.inr ⟨c', by omega, b⟩
      by_cases c1 : (nI c &&& (nI kin ^^^ (-1))) = 0
      · have hw := (win_sub hlt hk).mp c1
        rw [if_pos c1, if_neg one_ne]
        by_cases c2 : tb bits c = true
        · rw [if_pos c2, if_neg one_ne]
          exact skip (fun z => by have := z.2; rw [c2] at this; cases this)
        · have hnc : ncr kin bits c := ⟨hw, by simpa using c2⟩
          rw [if_neg c2, if_pos rfl]
          obtain ⟨lo', h1, h2⟩ := losing_58 hk hca hth hlt (F_X12_findLosing_27 (nI kin) ca n) FU (c + 1) lo (by unfold FU; omega) (by omega) (by omega) (fun k hk' => by
            rcases hS k hk' with ⟨e, a⟩ | a
            · exact Or.inl ⟨e, a, fun ⟨d', b1, b2, _⟩ => by omega⟩
            · exact Or.inr (Or.inl a))
          rw [h1]
          refine ih (c + 1) lo' (by omega) (by omega) (fun k hk' => ?_)
          rcases h2 k hk' with ⟨e, a, b⟩ | ⟨c', a, b⟩ | ⟨e, ⟨d', b1, b2, b3, b4⟩, b⟩
          · refine Or.inl ⟨e, fun c' hc' => ?_⟩
            by_cases q : c' = c
            · subst q
              rintro ⟨_, d, x1, x2, x3, x4⟩
              exact b ⟨d, x1, x2, x3, x4⟩
            · exact a c' (by omega)
          · exact Or.inr ⟨c', by omega, b⟩
          · exact Or.inr ⟨c, by omega, e, ⟨hnc, d', b1, b2, b3, b4⟩, b⟩
      · rw [if_neg c1, if_pos rfl]
        exact skip (fun z => c1 ((win_sub hlt hk).mpr z.1))
    · have e : c = 1024 := by omega
      subst e
      rw [if_pos (show (1024 : Int32) ≤ nI 1024 from nI_le (a := 1024) (Nat.le_refl _) (by omega))]
      exact ⟨lo, rfl, hS⟩
theorem losing_s (hk : kin < 1024) (hca : ∀ z, z < 1024 → ca z = if tb bits z = true then 1 else 0) (lo0 th0 : Nat → Int32) : ∃ lo th, F_X12_findLosing (nI kin) ca lo0 th0 = some (lo, th) ∧ (∀ j, j < 1024 → th j = nI (thr j 10)) ∧ LoS kin bits lo 1024 := by
  unfold F_X12_findLosing
  obtain ⟨th, h1, h2⟩ := threes_s th0
  obtain ⟨lo1, h3, h4⟩ := losing_6 (kin := kin) (ca := ca) (th := th) FU 0 lo0 (by unfold FU; omega) (by omega) (fun j hj => by omega)
  obtain ⟨lo, h5, h6⟩ := losing_27 (bits := bits) hk hca h2 FU 0 lo1 (by unfold FU; omega) (by omega) (fun k hk' => Or.inl ⟨h4 k hk', fun c hc => by omega⟩)
  rw [nI_0] at h3 h5
  rw [h1, Option.bind_some, h3, h5]
  exact ⟨lo, th, rfl, h2, h6⟩
end LO
