/-! agenda: its digits, both sides -/
theorem dg_mod {o t s : Nat} (h : s < t) : dg (o % 10 ^ t) s = dg o s := by
  unfold dg
  have e : (10 : Nat) ^ t = 10 ^ s * 10 ^ (t - s) := by rw [← Nat.pow_add, Nat.add_sub_cancel' (Nat.le_of_lt h)]
  rw [e, Nat.mod_mul_right_div_self, Nat.mod_mod_of_dvd]
  obtain ⟨u, hu⟩ : ∃ u, t - s = u + 1 := ⟨t - s - 1, by omega⟩
  rw [hu, Nat.pow_succ]
  exact Nat.dvd_mul_left 10 _
theorem sst_mod {o t : Nat} : ∀ s, s ≤ t → sst (o % 10 ^ t) s = sst o s := by
  intro s
  induction s with
  | zero => intro _; rfl
  | succ s ih => intro h; rw [sst, sst, dg_mod (by omega), ih (by omega)]
theorem inj_mod {o t : Nat} : ∀ s, s ≤ t → (inj6 (o % 10 ^ t) s ↔ inj6 o s) := by
  intro s hs
  unfold inj6
  constructor
  · rintro ⟨h1, h2⟩
    exact ⟨fun u hu => by rw [← dg_mod (show u < t by omega)]; exact h1 u hu, fun u w hu hw => by rw [← dg_mod (show u < t by omega), ← dg_mod (show w < t by omega)]; exact h2 u w hu hw⟩
  · rintro ⟨h1, h2⟩
    exact ⟨fun u hu => by rw [dg_mod (show u < t by omega)]; exact h1 u hu, fun u w hu hw => by rw [dg_mod (show u < t by omega), dg_mod (show w < t by omega)]; exact h2 u w hu hw⟩
/-- the class reads the digits -/
theorem from_62 {o t : Nat} (ho : o < 2 ^ 31) (ht6 : t ≤ 6) (cnt : Int32) : ∀ (fuel s : Nat) (r : Nat → Int32), t - s < fuel → s ≤ t → inj6 o s → (∀ u, u < s → r (t - 1 - u) = nI (dg o u)) →
    (inj6 o t ∧ ∃ r', F_X4_fromDigits_62 fuel (nI (sst o s)) (nI (o / 10 ^ s)) (nI (t - s) + (-1)) cnt r = some (1, cnt, r') ∧ ∀ u, u < t → r' (t - 1 - u) = nI (dg o u)) ∨
    (¬ inj6 o t ∧ ∃ r', F_X4_fromDigits_62 fuel (nI (sst o s)) (nI (o / 10 ^ s)) (nI (t - s) + (-1)) cnt r = some (0, cnt, r')) := by
  intro fuel
  induction fuel with
  | zero => intro s r h; omega
  | succ n ih =>
    intro s r h hs hi hr
    rw [F_X4_fromDigits_62]
    rcases Nat.lt_or_ge s t with hlt | hge
    · have hq := div_le' o s
      have hd := dg_lt o s
      have e10 : nI (o / 10 ^ s) - nI (o / 10 ^ s) / 10 * 10 = nI (dg o s) := nI_mod10 (by omega)
      rw [e10, nI_div10 (by omega), div_pow, show t - s = (t - 1 - s) + 1 by omega, pk_m1, if_neg (nI_pos (by omega)), if_neg (show ¬ (6 : Int32) ≤ nI (t - 1 - s) from nI_ge (b := 6) (by omega) (by omega)), show (6 : Int32) = nI 6 from rfl, inside_n (by omega) (by omega)]
      by_cases c1 : dg o s < 6
      · rw [if_pos c1, Option.bind_some, if_neg one_ne, has_s _ (show dg o s < 32 by omega), Option.bind_some, bt_nI (by omega)]
        by_cases c2 : (sst o s).testBit (dg o s) = true
        · rw [if_pos c2, if_neg one_ne]
          obtain ⟨-, u, s1, s2⟩ := (sst_bit o s _).mp c2
          exact Or.inr ⟨fun z => z.2 u s s1 hlt s2, r, rfl⟩
        · rw [if_neg c2, if_pos rfl, gin_n (show t - 1 - s < 6 by omega) (by omega), one_nI _ (by omega), or_nI, nI_clamp (by omega)]
          have hno : ∀ u, u < s → dg o u ≠ dg o s := fun u hu e => c2 ((sst_bit o s _).mpr ⟨c1, u, hu, e⟩)
          have next := ih (s + 1) (upd r (t - 1 - s) (nI (dg o s))) (by omega) (by omega) ⟨fun u hu => by
            by_cases e : u = s
            · subst e; exact c1
            · exact hi.1 u (by omega), fun u w hu hw => by
            by_cases e : w = s
            · subst e; exact hno u hu
            · exact hi.2 u w hu (by omega)⟩ (fun u hu => by
            by_cases e : u = s
            · subst e; rw [upd_self]
            · rw [upd_ne _ _ (by omega)]; exact hr u (by omega))
          rw [sst, if_pos c1, show t - (s + 1) = t - 1 - s by omega] at next
          exact next
      · rw [if_neg c1, Option.bind_some, if_pos rfl]
        exact Or.inr ⟨fun z => c1 (z.1 s hlt), r, rfl⟩
    · have e : s = t := by omega
      subst e
      rw [Nat.sub_self, if_pos (show nI 0 + (-1) < 0 by decide)]
      exact Or.inl ⟨hi, r, rfl, hr⟩
/-- the reference reads them -/
theorem read_82 {o t : Nat} (ho : o < 2 ^ 31) (ht6 : t ≤ 6) (cnt : Int32) : ∀ (fuel s : Nat) (r : Nat → Int32), t - s < fuel → s ≤ t → inj6 o s → (∀ u, u < s → r (t - 1 - u) = nI (dg o u)) →
    (inj6 o t ∧ ∃ r', F_X12_readRow_82 fuel (nI (sst o s)) (nI (o / 10 ^ s)) (nI (t - s) + (-1)) cnt r = some (1, cnt, r') ∧ ∀ u, u < t → r' (t - 1 - u) = nI (dg o u)) ∨
    (¬ inj6 o t ∧ ∃ r', F_X12_readRow_82 fuel (nI (sst o s)) (nI (o / 10 ^ s)) (nI (t - s) + (-1)) cnt r = some (0, cnt, r')) := by
  intro fuel
  induction fuel with
  | zero => intro s r h; omega
  | succ n ih =>
    intro s r h hs hi hr
    rw [F_X12_readRow_82]
    rcases Nat.lt_or_ge s t with hlt | hge
    · have hq := div_le' o s
      have hd := dg_lt o s
      have e10 : nI (o / 10 ^ s) - nI (o / 10 ^ s) / 10 * 10 = nI (dg o s) := nI_mod10 (by omega)
      rw [e10, nI_div10 (by omega), div_pow, show t - s = (t - 1 - s) + 1 by omega, pk_m1, if_neg (nI_pos (by omega))]
      simp only [gin_n (show t - 1 - s < 6 by omega) (show 6 < 2 ^ 31 by omega), nI_clamp (show t - 1 - s < 2 ^ 31 by omega), upd_self]
      by_cases c1 : dg o s < 6
      · rw [if_neg (show ¬ (6 : Int32) ≤ nI (dg o s) from nI_ge (b := 6) c1 (by omega)), shr1 _ (show dg o s < 32 by omega), bt_nI (by omega)]
        by_cases c2 : (sst o s).testBit (dg o s) = true
        · rw [if_pos c2, if_pos rfl]
          obtain ⟨-, u, s1, s2⟩ := (sst_bit o s _).mp c2
          exact Or.inr ⟨fun z => z.2 u s s1 hlt s2, _, rfl⟩
        · rw [if_neg c2, if_neg (show ¬ (0 : Int32) = 1 by decide), one_nI _ (by omega), or_nI]
          have hno : ∀ u, u < s → dg o u ≠ dg o s := fun u hu e => c2 ((sst_bit o s _).mpr ⟨c1, u, hu, e⟩)
          have next := ih (s + 1) (upd r (t - 1 - s) (nI (dg o s))) (by omega) (by omega) ⟨fun u hu => by
            by_cases e : u = s
            · subst e; exact c1
            · exact hi.1 u (by omega), fun u w hu hw => by
            by_cases e : w = s
            · subst e; exact hno u hu
            · exact hi.2 u w hu (by omega)⟩ (fun u hu => by
            by_cases e : u = s
            · subst e; rw [upd_self]
            · rw [upd_ne _ _ (by omega)]; exact hr u (by omega))
          rw [sst, if_pos c1, show t - (s + 1) = t - 1 - s by omega] at next
          exact next
      · rw [if_pos (show (6 : Int32) ≤ nI (dg o s) from nI_le (a := 6) (by omega) (by omega))]
        exact Or.inr ⟨fun z => c1 (z.1 s hlt), _, rfl⟩
    · have e : s = t := by omega
      subst e
      rw [Nat.sub_self, if_pos (show nI 0 + (-1) < 0 by decide)]
      exact Or.inl ⟨hi, r, rfl, hr⟩
/-- how many digits behind the first -/
theorem p10_lt : ∀ t, t < 9 → 0 < 10 ^ t ∧ 10 ^ t < 2 ^ 31 := by decide +kernel
theorem from_7 {o : Nat} (ho : o < 2 ^ 31) (cnt : Int32) (r : Nat → Int32) : ∀ (fuel t : Nat), 6 - t < fuel → t ≤ 6 → (∀ u, u < t → 9 < o / 10 ^ u) →
    ∃ t', t' ≤ 6 ∧ (∀ u, u < t' → 9 < o / 10 ^ u) ∧ (t' = 6 ∨ o / 10 ^ t' ≤ 9) ∧ F_X4_fromDigits_7 (nI o) fuel (nI t) (nI (o / 10 ^ t)) (nI t) cnt r = F_X4_fromDigits_34 (nI o) (nI t') (nI (o / 10 ^ t')) cnt r := by
  intro fuel
  induction fuel with
  | zero => intro t h; omega
  | succ n ih =>
    intro t h ht hu
    have hq := div_le' o t
    rw [F_X4_fromDigits_7]
    rcases Nat.lt_or_ge t 6 with hlt | hge
    · rw [if_neg (show ¬ (6 : Int32) ≤ nI t from nI_ge (b := 6) hlt (by omega))]
      by_cases c : o / 10 ^ t ≤ 9
      · rw [if_pos (show nI (o / 10 ^ t) ≤ (9 : Int32) from nI_le (b := 9) c (by omega))]
        exact ⟨t, ht, hu, Or.inr c, rfl⟩
      · rw [if_neg (show ¬ nI (o / 10 ^ t) ≤ (9 : Int32) from nI_ge (a := 9) (by omega) (by omega)), nI_div10 (by omega), div_pow, nI_1]
        exact ih (t + 1) (by omega) (by omega) (fun u h2 => by
          by_cases e : u = t
          · subst e; omega
          · exact hu u (by omega))
    · have e : t = 6 := by omega
      subst e
      rw [if_pos (show (6 : Int32) ≤ nI 6 by decide)]
      exact ⟨6, Nat.le_refl _, hu, Or.inl rfl, rfl⟩
theorem read_7 {o : Nat} (ho : o < 2 ^ 31) (r : Nat → Int32) : ∀ (fuel t : Nat), 7 - t < fuel → t ≤ 7 → (∀ u, u < t → 9 < o / 10 ^ u) →
    ∃ t', t' ≤ 7 ∧ (∀ u, u < t' → 9 < o / 10 ^ u) ∧ (t' = 7 ∨ o / 10 ^ t' ≤ 9) ∧ F_X12_readRow_7 (nI o) fuel (nI (10 ^ t)) (nI t) r = F_X12_readRow_42 (nI o) (nI (10 ^ t')) (nI t') r := by
  intro fuel
  induction fuel with
  | zero => intro t h; omega
  | succ n ih =>
    intro t h ht hu
    have hp := p10_lt t (by omega)
    have hq := div_le' o t
    rw [F_X12_readRow_7, gnz, if_neg (nI_ne0 hp.1 hp.2), pk_div ho hp.1 hp.2]
    by_cases c : o / 10 ^ t ≤ 9
    · rw [if_pos (show nI (o / 10 ^ t) ≤ (9 : Int32) from nI_le (b := 9) c (by omega))]
      exact ⟨t, ht, hu, Or.inr c, rfl⟩
    · rw [if_neg (show ¬ nI (o / 10 ^ t) ≤ (9 : Int32) from nI_ge (a := 9) (by omega) (by omega))]
      rcases Nat.lt_or_ge t 7 with hlt | hge
      · have hp2 : (10 : Int32) * nI (10 ^ t) = nI (10 ^ (t + 1)) := by rw [show (10 : Int32) = nI 10 from rfl, pk_mul, Nat.pow_succ, Nat.mul_comm]
        rw [if_neg (show ¬ (7 : Int32) ≤ nI t from nI_ge (b := 7) hlt (by omega)), hp2, nI_1]
        exact ih (t + 1) (by omega) (by omega) (fun u h2 => by
          by_cases e : u = t
          · subst e; omega
          · exact hu u (by omega))
      · have e : t = 7 := by omega
        subst e
        rw [if_pos (show (7 : Int32) ≤ nI 7 by decide)]
        exact ⟨7, Nat.le_refl _, hu, Or.inl rfl, rfl⟩
/-- digits that tell no agenda, or the same rows -/
theorem digits_both (x cnt cnt2 : Int32) (r r2 : Nat → Int32) :
    (∃ c1 r', F_X4_fromDigits x cnt r = some (0, c1, r') ∧ ∃ c2 r2', F_X12_readRow x cnt2 r2 = some (0, c2, r2')) ∨
    (∃ n l r' r2', 1 ≤ n ∧ n ≤ 6 ∧ Mot n r' l ∧ Mot n r2' l ∧ F_X4_fromDigits x cnt r = some (1, nI n, r') ∧ F_X12_readRow x cnt2 r2 = some (1, nI n, r2')) := by
  unfold F_X4_fromDigits F_X12_readRow
  by_cases h0 : 0 ≤ x
  rotate_left
  · left
    have hx : x < 0 := Int32.not_le.mp h0
    have h9 : x ≤ 9 := by
      rw [Int32.le_iff_toInt_le, show (9 : Int32).toInt = 9 by decide]
      rw [Int32.lt_iff_toInt_lt, show (0 : Int32).toInt = 0 by decide] at hx
      omega
    have hne : ¬ x = 9 := fun e => by rw [e] at hx; exact absurd hx (by decide)
    have h90 : x < 90 := by
      rw [Int32.lt_iff_toInt_lt, show (90 : Int32).toInt = 90 by decide]
      rw [Int32.lt_iff_toInt_lt, show (0 : Int32).toInt = 0 by decide] at hx
      omega
    have ediv : x / 1 = x := Int32.div_one
    refine ⟨cnt, r, ?_, 0, r2, ?_⟩
    · rw [show FU = 99999 + 1 from rfl, F_X4_fromDigits_7, if_neg (by decide), if_pos h9]
      unfold F_X4_fromDigits_34
      rw [if_neg hne]
    · rw [show FU = 99999 + 1 from rfl, F_X12_readRow_7, gnz, if_neg one_ne, ediv, if_pos h9]
      unfold F_X12_readRow_42
      rw [if_pos h90]
  · obtain ⟨o, ho, eo⟩ := nI_of (Int32.not_lt.mpr h0)
    subst eo
    obtain ⟨t, t1, t2, t3, t4⟩ := from_7 ho cnt r FU 0 (by unfold FU; omega) (by omega) (fun u hu => by omega)
    obtain ⟨q, q1, q2, q3, q4⟩ := read_7 ho r2 FU 0 (by unfold FU; omega) (by omega) (fun u hu => by omega)
    rw [nI_0, show o / 10 ^ 0 = o by simp] at t4
    rw [nI_0, show nI (10 ^ 0) = (1 : Int32) from rfl] at q4
    rw [t4, q4]
    have hqt := div_le' o t
    have hp := p10_lt q (by omega)
    unfold F_X4_fromDigits_34 F_X12_readRow_42
    rw [gnz, gnz, if_neg (nI_ne0 hp.1 hp.2), if_neg (nI_ne0 hp.1 hp.2), pk_rem ho hp.1 hp.2, pk_div ho hp.1 hp.2]
    have hqq := div_le' o q
    by_cases c9 : o / 10 ^ t ≤ 9
    · have eqt : q = t := by
        rcases Nat.lt_trichotomy q t with z | z | z
        · have := t2 q z
          rcases q3 with y | y <;> omega
        · exact z
        · have := q2 t z; omega
      subst eqt
      by_cases c : o / 10 ^ q = 9
      · rw [if_pos (show nI (o / 10 ^ q) = (9 : Int32) by rw [c]; rfl)]
        by_cases c0 : q = 0
        · subst c0
          left
          have ho9 : o = 9 := by simpa using c
          rw [if_pos nI_0, if_pos (show nI o < (90 : Int32) by rw [ho9]; decide)]
          exact ⟨_, _, rfl, _, _, rfl⟩
        · have h90 : 90 ≤ o := by
            have h1 : 9 * 10 ^ q ≤ o := by
              have := Nat.div_mul_le_self o (10 ^ q)
              rw [c] at this; exact this
            have h2 : 10 ^ 1 ≤ 10 ^ q := Nat.pow_le_pow_right (by omega) (by omega)
            omega
          rw [if_neg (nI_ne0 (by omega) (by omega)), if_neg (show ¬ nI o < (90 : Int32) from nI_nlt (b := 90) h90 ho), if_pos (show nI (o / 10 ^ q) = (9 : Int32) by rw [c]; rfl), if_pos (show nI q ≤ (6 : Int32) from nI_le (b := 6) t1 (by omega)), show (1 : Int32) = nI 1 from rfl, pk_sub (show 1 ≤ q by omega)]
          have em : nI (q - 1) = nI (q - 0) + (-1) := by
            obtain ⟨k, rfl⟩ : ∃ k, q = k + 1 := ⟨q - 1, by omega⟩
            rw [Nat.sub_zero, pk_m1, Nat.add_sub_cancel]
          have hm : o % 10 ^ q < 2 ^ 31 := Nat.lt_of_le_of_lt (Nat.mod_le _ _) ho
          have f1 := from_62 (o := o) (t := q) ho t1 (nI q) FU 0 r (by unfold FU; omega) (by omega) ⟨fun s hs => by omega, fun s u _ hu => by omega⟩ (fun u hu => by omega)
          have f2 := read_82 (o := o % 10 ^ q) (t := q) hm t1 (nI q) FU 0 r2 (by unfold FU; omega) (by omega) ⟨fun s hs => by omega, fun s u _ hu => by omega⟩ (fun u hu => by omega)
          rw [← em, show sst o 0 = 0 from rfl, nI_0, show o / 10 ^ 0 = o by simp] at f1
          rw [← em, show sst (o % 10 ^ q) 0 = 0 from rfl, nI_0, show o % 10 ^ q / 10 ^ 0 = o % 10 ^ q by simp, inj_mod q (Nat.le_refl _)] at f2
          rcases f1 with ⟨a1, r', a2, a3⟩ | ⟨a1, r', a2⟩
          · rcases f2 with ⟨b1, r2', b2, b3⟩ | ⟨b1, _⟩
            · right
              refine ⟨q, fun j => dg o (q - 1 - j), r', r2', by omega, t1, fun j hj => ⟨?_, a1.1 _ (by omega)⟩, fun j hj => ⟨?_, a1.1 _ (by omega)⟩, a2, b2⟩
              · have := a3 (q - 1 - j) (by omega)
                rw [show q - 1 - (q - 1 - j) = j by omega] at this
                exact this
              · have := b3 (q - 1 - j) (by omega)
                rw [show q - 1 - (q - 1 - j) = j by omega, dg_mod (by omega)] at this
                exact this
            · exact absurd a1 b1
          · rcases f2 with ⟨b1, _⟩ | ⟨b1, r2', b2⟩
            · exact absurd b1 a1
            · left
              exact ⟨_, _, a2, _, _, b2⟩
      · left
        rw [if_neg (show ¬ nI (o / 10 ^ q) = (9 : Int32) from fun z => c ((nI_eq (b := 9) (by omega) (by omega)).mp z)), if_neg (show ¬ nI (o / 10 ^ q) = (9 : Int32) from fun z => c ((nI_eq (b := 9) (by omega) (by omega)).mp z))]
        by_cases d : nI o < (90 : Int32)
        · rw [if_pos d]; exact ⟨_, _, rfl, _, _, rfl⟩
        · rw [if_neg d]; exact ⟨_, _, rfl, _, _, rfl⟩
    · left
      have et : t = 6 := t3.resolve_right c9
      subst et
      have eq7 : q = 7 := by
        rcases q3 with y | y
        · exact y
        · rcases Nat.lt_or_ge q 7 with z | z
          · rcases Nat.lt_or_ge q 6 with w | w
            · have := t2 q w; omega
            · have : q = 6 := by omega
              subst this; omega
          · omega
      subst eq7
      rw [if_neg (show ¬ nI (o / 10 ^ 6) = (9 : Int32) from fun z => by have := (nI_eq (b := 9) (by omega) (by omega)).mp z; omega), if_neg (show ¬ nI 7 ≤ (6 : Int32) by decide)]
      by_cases d : nI o < (90 : Int32)
      · rw [if_pos d]; exact ⟨_, _, rfl, _, _, rfl⟩
      · rw [if_neg d]
        by_cases e : nI (o / 10 ^ 7) = (9 : Int32)
        · rw [if_pos e]; exact ⟨_, _, rfl, _, _, rfl⟩
        · rw [if_neg e]; exact ⟨_, _, rfl, _, _, rfl⟩
theorem bts_self {sin sal : Int32} {mo sw fi ra : Nat → Int32} {L : List (Nat × Nat)} (a : Nat) : bts sin sal mo sw fi ra L a a = false := by
  unfold bts
  simp
section AB
variable {mem day tld blo wei : Nat → Int32} {d k : Int32} {N M : Nat}
theorem agenda_both (hM : M ≤ 10) (hn : N ≤ 200) (hmem : ∀ i, i < N → ∃ mi, mi < M ∧ mem i = nI mi) {sin sal : Int32} {mo sw : Nat → Int32} (S : Seated mem day tld blo wei d k N sin sal mo sw) {L : List (Nat × Nat)} {codes fr : Int32} {code bits cm op arg : Nat → Int32} {x y z : Int32} (R : ∀ r, r < 4 → x = nI r → RuleIs L codes code r cm op arg) (hfr : ¬ fr = 0 → Truth sin sal mo sw L bits 1024) {fi ra hw wi : Nat → Int32} (hW : WishOk fi ra hw wi) (al ma we told mcnt mot : Int32) (cst be le or_ st rb rw0 btr le2 row : Nat → Int32) :
    ∃ a o1, F_X11_agenda x y z mcnt be fi le or_ ra codes code cst fr bits sal sin mo sw = some (a, o1) ∧ ∃ o2, F_X12_agenda x y z al ma (nI M) mot (nI N) told d k we arg btr rb cm hw le2 op row blo day mem tld wei st rw0 wi = some (a, o2) := by
  have hsin : ∀ i, 10 ≤ i → i < 32 → bt sin i = false := by rw [S.1]; exact sAll_hi (Nat.le_refl _)
  unfold F_X11_agenda F_X12_agenda
  rw [isRule_s, inside_s]
  simp only [Option.bind_some]
  by_cases hx : 0 ≤ x ∧ x < 4
  rotate_left
  · simp only [if_neg hx, if_true]
    exact ⟨_, _, rfl, _, rfl⟩
  simp only [if_pos hx, if_neg one_ne]
  obtain ⟨r, hr31, er⟩ := nI_of (Int32.not_lt.mpr hx.1)
  subst er
  have hr : r < 4 := (nI_ltI (b := 4) hr31 (by omega)).mp hx.2
  have hR := R r hr rfl
  rcases digits_both y mcnt mot or_ row with ⟨c1, r', e1, c2, r2', e2⟩ | ⟨n, l, r', r2', n1, n6, m1, m2, e1, e2⟩
  · rw [e1, e2, Option.bind_some, Option.bind_some]
    dsimp only
    rw [if_pos rfl, if_pos rfl]
    exact ⟨_, _, rfl, _, rfl⟩
  · rw [e1, e2, Option.bind_some, Option.bind_some]
    dsimp only
    rw [if_neg one_ne, if_neg one_ne]
    obtain ⟨st1, be1, c1, c2⟩ := compare_s (sal := sal) (mo := mo) (sw := sw) (fi := fi) (ra := ra) hR.1 hsin hR.2.2.1 fr hfr cst be
    obtain ⟨bt1, st2, f1, f2⟩ := findBeats_s hM hn hmem S hr hR hW al ma we btr st rb rw0
    rw [gin_n hr (by omega), hR.2.1, c1, f1, Option.bind_some, Option.bind_some]
    dsimp only
    obtain ⟨le', o1⟩ := outcome_s (B := bts sin sal mo sw fi ra L) c2 n1 n6 m1 z le
    obtain ⟨le2', o2⟩ := ends_s (B := bts sin sal mo sw fi ra L) f2 bts_self n1 n6 m2 z le2
    rw [o1, o2, Option.bind_some, Option.bind_some]
    exact ⟨_, _, rfl, _, rfl⟩
end AB
