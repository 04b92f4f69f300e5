/-! deal: the posts handed out, both sides -/
section HO
variable {va : Nat → Int32} {P : Nat}
theorem dear_both {q w : Nat} (hq0 : 0 < q) (hq : q < 256) (hw : w < 6) : ∀ (f1 f2 p : Nat) (cur : Option Nat), 8 - p < f1 → 8 - p < f2 → p ≤ 8 → (cur = none → ∀ p', p' < p → ¬ q.testBit p' = true) → (∀ e, cur = some e → e < 8 ∧ q.testBit e = true) →
    ∃ t, t < 8 ∧ q.testBit t = true ∧ F_X0_dearest_5 (nI q) (nI w) va f1 (bI cur) (nI p) = some (nI t) ∧ F_X12_bestOf_5 (nI q) (nI w) va f2 (bI cur) (nI p) = some (nI t) := by
  intro f1
  induction f1 with
  | zero => intro f2 p cur h; omega
  | succ f1 ih =>
    intro f2 p cur g1 g2 hp hnone hsome
    obtain ⟨f2, rfl⟩ : ∃ g, f2 = g + 1 := ⟨f2 - 1, by omega⟩
    rw [F_X0_dearest_5, F_X12_bestOf_5]
    rcases Nat.lt_or_ge p 8 with hlt | hge
    · rw [if_neg (show ¬ (8 : Int32) ≤ nI p from nI_ge (b := 8) hlt (by omega)), if_neg (show ¬ (8 : Int32) ≤ nI p from nI_ge (b := 8) hlt (by omega)), has_s _ (show p < 32 by omega), isOf_s _ (show p < 32 by omega), Option.bind_some, Option.bind_some, bt_nI (by omega), nI_1]
      by_cases c : q.testBit p = true
      · rw [if_pos c, if_neg one_ne, if_neg one_ne]
        rcases cur with _ | e
        · rw [if_pos (show bI none = -1 from rfl), if_pos (show bI none = -1 from rfl)]
          exact ih f2 (p + 1) (some p) (by omega) (by omega) (by omega) (fun z => by cases z) (fun e he => by cases he; exact ⟨hlt, c⟩)
        · obtain ⟨he, hqe⟩ := hsome e rfl
          rw [show bI (some e) = nI e from rfl, if_neg (neg1_ne (by omega)), if_neg (neg1_ne (by omega)), priceOf_s hlt hw, priceOf_s he hw, Option.bind_some, Option.bind_some, six_mul, six_mul, gin_n (show 6 * p + w < 48 by omega) (by omega), gin_n (show 6 * e + w < 48 by omega) (by omega), nI_clamp (show 6 * p + w < 2 ^ 31 by omega), nI_clamp (show 6 * e + w < 2 ^ 31 by omega)]
          by_cases z : va (6 * p + w) ≤ va (6 * e + w)
          · rw [if_pos z, if_pos z]
            exact ih f2 (p + 1) (some e) (by omega) (by omega) (by omega) (fun z => by cases z) (fun e2 he2 => by cases he2; exact ⟨he, hqe⟩)
          · rw [if_neg z, if_neg z]
            exact ih f2 (p + 1) (some p) (by omega) (by omega) (by omega) (fun z => by cases z) (fun e he => by cases he; exact ⟨hlt, c⟩)
      · rw [if_neg c, if_pos rfl, if_pos rfl]
        refine ih f2 (p + 1) cur (by omega) (by omega) (by omega) (fun z d hd => ?_) hsome
        by_cases y : d = p
        · rw [y]; exact c
        · exact hnone z d (by omega)
    · have e : p = 8 := by omega
      subst e
      rw [if_pos (show (8 : Int32) ≤ nI 8 by decide), if_pos (show (8 : Int32) ≤ nI 8 by decide)]
      rcases cur with _ | e
      · exfalso
        obtain ⟨b, hb, _⟩ := sub_miss (p := 0) (q := q) (by rw [Nat.zero_and]) hq0
        have hb8 : b < 8 := by
          rcases Nat.lt_or_ge b 8 with z | z
          · exact z
          · rw [Nat.testBit_lt_two_pow (Nat.lt_of_lt_of_le (show q < 2 ^ 8 from hq) (Nat.pow_le_pow_right (by omega) z))] at hb
            cases hb
        exact hnone rfl b hb8 hb
      · obtain ⟨he, hqe⟩ := hsome e rfl
        exact ⟨e, he, hqe, rfl, rfl⟩
/-- what each bloc has: the class's row has -1 for those that are not of the coalition -/
def Held (C : Nat) (hd ha : Nat → Int32) : Prop := ∀ b, b < 6 → hd b = if C.testBit b = true then ha b else -1
variable {mm NN' vd vk al ma told we : Int32} {blo day mem tld wei : Nat → Int32} {rb bw ch wr : Nat → Int32}
theorem hand_both {C n : Nat} (hP : P < 256) (hn : n = hN P 10) {cho cho2 ga ge pk tk : Nat → Int32} (hcs : Chs C n cho cho2) (sight what : Int32) (hG : ¬ sight = 0 → GRel P (P + 1) ga ge pk tk) :
    ∀ (k f1 f2 q : Nat) (hd ow ha go : Nat → Int32), n - k < f1 → n - k < f2 → k ≤ n → q &&& P = q → n - k ≤ hN q 10 → Alk 8 ow go → Held C hd ha →
      ∃ hd' ow' ha' go', F_X0_handOut_60 sight (nI n) cho va f1 (nI q) (nI k) ga hd ow pk = some (ga, hd', ow', pk) ∧ Alk 8 ow' go' ∧ Held C hd' ha' ∧
        F_X12_deal_158 (nI C) sight what mm NN' vd vk blo day mem tld wei va f2 (nI n) (nI q) (nI k) al ma told we rb bw ch cho2 ge go ha tk wr = F_X12_deal_253 (nI C) what mm NN' vd vk blo day mem tld wei va (nI n) al ma told we rb bw ch cho2 ge go' ha' tk wr := by
  have hn8 : n ≤ 8 := by rw [hn]; exact hN_256 hP
  intro k f1
  induction f1 generalizing k with
  | zero => intro f2 q hd ow ha go h; omega
  | succ f1 ih =>
    intro f2 q hd ow ha go g1 g2 hk hsub hcnt hA hH
    obtain ⟨f2, rfl⟩ : ∃ g, f2 = g + 1 := ⟨f2 - 1, by omega⟩
    rw [F_X0_handOut_60, F_X12_deal_158]
    rcases Nat.lt_or_ge k n with hlt | hge
    · have hqP := sub_le hsub
      have hq0 : 0 < q := by
        rcases Nat.eq_zero_or_pos q with e | e
        · subst e
          have : hN 0 10 = 0 := by decide
          omega
        · exact e
      obtain ⟨w, w1, w2, w3, w4⟩ := hcs k hlt
      rw [if_neg (nI_ge hlt (by omega)), if_neg (nI_ge hlt (by omega)), if_neg (show ¬ (8 : Int32) ≤ nI k from nI_ge (b := 8) (by omega) (by omega)), gin_n (show k < 8 by omega) (by omega), gin_n (show k < 8 by omega) (by omega), nI_clamp (show k < 2 ^ 31 by omega), w3, w4]
      have step : ∀ t, t < 8 → q.testBit t = true → ∃ hd' ow' ha' go', F_X0_handOut_118 sight (nI n) cho va (F_X0_handOut_60 sight (nI n) cho va f1) (nI q) (nI k) (nI w) (nI t) ga hd ow pk = some (ga, hd', ow', pk) ∧ Alk 8 ow' go' ∧ Held C hd' ha' ∧
          F_X12_deal_197 (nI C) sight what mm NN' vd vk blo day mem tld wei va (F_X12_deal_158 (nI C) sight what mm NN' vd vk blo day mem tld wei va f2) (nI n) (nI q) (nI k) (nI w) (nI t) al ma told we rb bw ch cho2 ge go ha tk wr = F_X12_deal_253 (nI C) what mm NN' vd vk blo day mem tld wei va (nI n) al ma told we rb bw ch cho2 ge go' ha' tk wr := by
        intro t ht htb
        unfold F_X0_handOut_118 F_X12_deal_197
        rw [show (8 : Int32) = nI 8 from rfl, inside_n (by omega) (by omega), if_pos ht, Option.bind_some, if_neg one_ne, show F_X11_inside (nI w) (6 : Int32) = F_X11_inside (nI w) (nI 6) from rfl, inside_n (by omega) (by omega), if_pos w1, Option.bind_some, if_neg one_ne, gin_n ht (by omega), gin_n w1 (by omega), priceOf_s ht w1, Option.bind_some, gin_n w1 (by omega), les_nI (by omega) (by omega), gin_n ht (by omega), gin_n w1 (by omega), six_mul, gin_n (show 6 * t + w < 48 by omega) (by omega), gin_n w1 (by omega), nI_1, nI_clamp (show w < 2 ^ 31 by omega), nI_clamp (show t < 2 ^ 31 by omega), nI_clamp (show 6 * t + w < 2 ^ 31 by omega)]
        have hge1 := (les_ge (q := q) (p := t) (by omega) 10).1
        refine ih (k + 1) f2 (les q t) _ _ _ _ (by omega) (by omega) (by omega) (sub_trans les_sub hsub) (by omega) (fun j hj => ?_) (fun b hb => ?_)
        · by_cases e : j = t
          · subst e; rw [upd_self, upd_self]
          · rw [upd_ne _ _ e, upd_ne _ _ e]; exact hA j hj
        · by_cases e : b = w
          · subst e
            rw [upd_self, upd_self, if_pos w2, hH b hb, if_pos w2]
          · rw [upd_ne _ _ e, upd_ne _ _ e]; exact hH b hb
      by_cases hs : sight = 0
      · obtain ⟨t, t1, t2, t3, t4⟩ := dear_both (va := va) hq0 (show q < 256 by omega) w1 FU FU 0 none (by unfold FU; omega) (by unfold FU; omega) (by omega) (fun _ p' h => by omega) (fun e he => by cases he)
        rw [nI_0, show bI none = -1 from rfl] at t3 t4
        unfold F_X0_dearest F_X12_bestOf
        rw [if_pos hs, if_pos hs, t3, t4, Option.bind_some, Option.bind_some]
        exact step t t1 t2
      · obtain ⟨t, t1, t2, t3, t4⟩ := (hG hs q (by omega) hsub).2 (by omega)
        rw [if_neg hs, if_neg hs, show F_X11_inside (nI q) (256 : Int32) = F_X11_inside (nI q) (nI 256) from rfl, inside_n (by omega) (by omega), if_pos (show q < 256 by omega), Option.bind_some, if_neg one_ne, gin_n (show q < 256 by omega) (by omega), gin_n (show q < 256 by omega) (by omega), nI_clamp (show q < 2 ^ 31 by omega), t3, t4]
        exact step t t1 t2
    · have e : k = n := by omega
      subst e
      rw [if_pos (nI_le (Nat.le_refl _) (by omega)), if_pos (nI_le (Nat.le_refl _) (by omega))]
      exact ⟨hd, ow, ha, go, rfl, hA, hH, rfl⟩
/-- what is asked of it -/
theorem ask_both {C n : Nat} (hn8 : n ≤ 8) {cho cho2 ow go hd ha ge tk : Nat → Int32} (hcs : Chs C n cho cho2) (hA : Alk 8 ow go) (hH : Held C hd ha) (what : Int32) :
    ∃ v, ((10 : Int32) ≤ what → (20 : Int32) ≤ what → F_X0_chooserAt (what - 20) (nI n) cho = some v) ∧ ((10 : Int32) ≤ what → ¬ (20 : Int32) ≤ what → F_X0_heldBy (what - 10) hd = some v) ∧ (¬ (10 : Int32) ≤ what → F_X0_ownerOf what ow = some v) ∧
      ∃ o, F_X12_deal_253 (nI C) what mm NN' vd vk blo day mem tld wei va (nI n) al ma told we rb bw ch cho2 ge go ha tk wr = some (v, o) := by
  unfold F_X12_deal_253 F_X0_chooserAt F_X0_heldBy F_X0_ownerOf
  rw [isIn_s, isIn_s, isIn_s, show F_X11_inside what (8 : Int32) = F_X12_isIn what 0 7 from inside_in (by decide) what, isIn_s]
  simp only [Option.bind_some]
  by_cases h0 : 0 ≤ what
  rotate_left
  · have h10 : ¬ (10 : Int32) ≤ what := fun z => h0 (Int32.le_trans (by decide) z)
    have n1 : ¬ (0 ≤ what ∧ what ≤ 7) := fun z => h0 z.1
    have n2 : ¬ ((10 : Int32) ≤ what ∧ what ≤ 15) := fun z => h10 z.1
    have n3 : ¬ ((20 : Int32) ≤ what ∧ what ≤ 19 + nI n) := fun z => h0 (Int32.le_trans (by decide) z.1)
    refine ⟨-1, fun z => absurd z h10, fun z => absurd z h10, fun _ => ?_, ?_⟩
    · rw [if_neg n1, if_pos rfl]
    · rw [if_neg n1, if_pos rfl, if_neg n2, if_pos rfl, if_neg n3, if_pos rfl]
      exact ⟨_, rfl⟩
  obtain ⟨x, hx, ex⟩ := nI_of (Int32.not_lt.mpr h0)
  subst ex
  have le_n : ∀ a : Nat, a < 2 ^ 31 → (nI a ≤ nI x ↔ a ≤ x) := fun a ha => nI_leI ha hx
  have ge_n : ∀ a : Nat, a < 2 ^ 31 → (nI x ≤ nI a ↔ x ≤ a) := fun a ha => nI_leI hx ha
  rw [show (10 : Int32) = nI 10 from rfl, show (20 : Int32) = nI 20 from rfl, show (7 : Int32) = nI 7 from rfl, show (15 : Int32) = nI 15 from rfl, show (19 : Int32) = nI 19 from rfl, nI_add]
  simp only [le_n 10 (by omega), le_n 20 (by omega), ge_n 7 (by omega), ge_n 15 (by omega), ge_n (19 + n) (by omega)]
  by_cases c7 : x ≤ 7
  · have p1 : 0 ≤ nI x ∧ x ≤ 7 := ⟨h0, c7⟩
    refine ⟨ow x, fun z => by omega, fun z => by omega, fun _ => ?_, ?_⟩
    · rw [if_pos p1, if_neg one_ne, gin_n (show x < 8 by omega) (by omega), nI_clamp hx]
    · rw [if_pos p1, if_neg one_ne, gin_n (show x < 8 by omega) (by omega), nI_clamp hx, ← hA x (by omega)]
      exact ⟨_, rfl⟩
  rw [if_neg (show ¬ (0 ≤ nI x ∧ x ≤ 7) from fun z => c7 z.2), if_pos rfl]
  simp only [if_true]
  by_cases c10 : 10 ≤ x
  rotate_left
  · have n2 : ¬ (10 ≤ x ∧ x ≤ 15) := fun z => c10 z.1
    have n3 : ¬ (20 ≤ x ∧ x ≤ 19 + n) := fun z => by omega
    refine ⟨-1, fun z => absurd z c10, fun z => absurd z c10, fun _ => rfl, ?_⟩
    rw [if_neg n2, if_pos rfl, if_neg n3, if_pos rfl]
    exact ⟨_, rfl⟩
  by_cases c20 : 20 ≤ x
  · rw [pk_sub c20, if_neg (show ¬ (10 ≤ x ∧ x ≤ 15) by omega), if_pos rfl, inside_n (by omega) (by omega)]
    by_cases cn : x - 20 < n
    · obtain ⟨e, e1, e2, e3, e4⟩ := hcs (x - 20) cn
      refine ⟨nI e, fun _ _ => ?_, fun _ z => absurd c20 z, fun z => absurd c10 z, ?_⟩
      · rw [if_pos cn, Option.bind_some, if_neg one_ne, if_neg (show ¬ (8 : Int32) ≤ nI (x - 20) from nI_ge (b := 8) (by omega) (by omega)), gin_n (show x - 20 < 8 by omega) (by omega), nI_clamp (by omega), e3]
      · rw [if_pos (show 20 ≤ x ∧ x ≤ 19 + n by omega), if_neg one_ne, gin_n (show x - 20 < 8 by omega) (by omega), nI_clamp (by omega), e4]
        exact ⟨_, rfl⟩
    · refine ⟨-1, fun _ _ => ?_, fun _ z => absurd c20 z, fun z => absurd c10 z, ?_⟩
      · rw [if_neg cn, Option.bind_some, if_pos rfl]
      · rw [if_neg (show ¬ (20 ≤ x ∧ x ≤ 19 + n) by omega), if_pos rfl]
        exact ⟨_, rfl⟩
  · rw [pk_sub c10, show F_X11_inside (nI (x - 10)) (6 : Int32) = F_X11_inside (nI (x - 10)) (nI 6) from rfl, inside_n (by omega) (by omega)]
    by_cases c6 : x - 10 < 6
    · refine ⟨hd (x - 10), fun _ z => absurd z c20, fun _ _ => ?_, fun z => absurd c10 z, ?_⟩
      · rw [if_pos c6, Option.bind_some, if_neg one_ne, gin_n c6 (by omega), nI_clamp (by omega)]
      · rw [if_pos (show 10 ≤ x ∧ x ≤ 15 by omega), if_neg one_ne, isOf_s _ (show x - 10 < 32 by omega), Option.bind_some, bt_nI (by omega), hH _ c6]
        by_cases cb : C.testBit (x - 10) = true
        · rw [if_pos cb, if_neg one_ne, gin_n c6 (by omega), nI_clamp (by omega), if_pos cb]
          exact ⟨_, rfl⟩
        · rw [if_neg cb, if_pos rfl, if_neg cb]
          exact ⟨_, rfl⟩
    · refine ⟨-1, fun _ z => absurd z c20, fun _ _ => ?_, fun z => absurd c10 z, ?_⟩
      · rw [if_neg c6, Option.bind_some, if_pos rfl]
      · rw [if_neg (show ¬ (10 ≤ x ∧ x ≤ 15) by omega), if_pos rfl, if_neg (show ¬ (20 ≤ x ∧ x ≤ 19 + n) by omega), if_pos rfl]
        exact ⟨_, rfl⟩
end HO
