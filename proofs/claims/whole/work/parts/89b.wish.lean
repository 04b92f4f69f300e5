/-! wish: the digits of an order -/
def dg (o t : Nat) : Nat := o / 10 ^ t % 10
theorem dg_lt (o t : Nat) : dg o t < 10 := Nat.mod_lt _ (by decide)
theorem div_pow (o t : Nat) : o / 10 ^ t / 10 = o / 10 ^ (t + 1) := by rw [Nat.div_div_eq_div_mul, ← Nat.pow_succ]
theorem div_le' (o t : Nat) : o / 10 ^ t ≤ o := Nat.div_le_self _ _
theorem nI_div10 {a : Nat} (ha : a < 2 ^ 31) : nI a / 10 = nI (a / 10) := pk_div (d := 10) ha (by decide) (by decide)
theorem nI_mod10 {a : Nat} (ha : a < 2 ^ 31) : nI a - nI a / 10 * 10 = nI (a % 10) := pk_rem (d := 10) ha (by decide) (by decide)
/-- the digits below six that have come, as a set -/
def sst (o : Nat) : Nat → Nat
  | 0 => 0
  | t + 1 => if dg o t < 6 then sst o t ||| 2 ^ dg o t else sst o t
theorem sst_bit (o : Nat) : ∀ t i, (sst o t).testBit i = true ↔ i < 6 ∧ ∃ s, s < t ∧ dg o s = i := by
  intro t
  induction t with
  | zero => intro i; rw [sst, Nat.zero_testBit]; simp
  | succ t ih =>
    intro i
    rw [sst]
    by_cases c : dg o t < 6
    · rw [if_pos c, Nat.testBit_or, Bool.or_eq_true, ih i, Nat.testBit_two_pow, decide_eq_true_iff]
      constructor
      · rintro (⟨h1, s, h2, h3⟩ | h)
        · exact ⟨h1, s, by omega, h3⟩
        · exact ⟨by omega, t, by omega, h⟩
      · rintro ⟨h1, s, h2, h3⟩
        by_cases e : s = t
        · subst e; exact Or.inr h3
        · exact Or.inl ⟨h1, s, by omega, h3⟩
    · rw [if_neg c, ih i]
      constructor
      · rintro ⟨h1, s, h2, h3⟩; exact ⟨h1, s, by omega, h3⟩
      · rintro ⟨h1, s, h2, h3⟩
        by_cases e : s = t
        · subst e; omega
        · exact ⟨h1, s, by omega, h3⟩
theorem sst_lt (o t : Nat) : sst o t < 64 := by
  refine Nat.lt_pow_two_of_testBit (n := 6) _ (fun i hi => ?_)
  cases h : (sst o t).testBit i
  · rfl
  · have := ((sst_bit o t i).mp h).1; omega
/-- all six -/
def surj6 (o : Nat) : Prop := ∀ x, x < 6 → ∃ s, s < 6 ∧ dg o s = x
theorem sst_63 (o : Nat) : sst o 6 = 63 ↔ surj6 o := by
  constructor
  · intro h x hx
    have : (sst o 6).testBit x = true := by
      rw [h]
      exact (by decide +kernel : ∀ x, x < 6 → (63 : Nat).testBit x = true) x hx
    obtain ⟨-, s, h1, h2⟩ := (sst_bit o 6 x).mp this
    exact ⟨s, h1, h2⟩
  · intro h
    apply Nat.eq_of_testBit_eq
    intro i
    rcases Nat.lt_or_ge i 6 with c | c
    · rw [(by decide +kernel : ∀ x, x < 6 → (63 : Nat).testBit x = true) i c]
      obtain ⟨s, h1, h2⟩ := h i c
      exact (sst_bit o 6 i).mpr ⟨c, s, h1, h2⟩
    · rw [Nat.testBit_lt_two_pow (Nat.lt_of_lt_of_le (show 63 < 2 ^ 6 by decide) (Nat.pow_le_pow_right (by omega) c))]
      cases hb : (sst o 6).testBit i
      · rfl
      · have := ((sst_bit o 6 i).mp hb).1; omega
/-- six different digits below six -/
def inj6 (o n : Nat) : Prop := (∀ s, s < n → dg o s < 6) ∧ ∀ s t, s < t → t < n → dg o s ≠ dg o t
theorem surj_inj (o : Nat) : surj6 o ↔ inj6 o 6 := by
  have rn : (List.range 6).Nodup := List.nodup_range
  have cover : surj6 o → ∀ (l : List Nat), (∀ s, s < 6 → dg o s < 6 → ∃ t ∈ l, dg o t = dg o s) → 6 ≤ l.length := by
    intro h l hl
    have := nodup_le (l := List.range 6) (l' := l.map (dg o)) rn (fun x hx => by
      obtain ⟨s, h1, h2⟩ := h x (List.mem_range.mp hx)
      obtain ⟨t, t1, t2⟩ := hl s h1 (by rw [h2]; exact List.mem_range.mp hx)
      exact List.mem_map.mpr ⟨t, t1, by rw [t2, h2]⟩)
    simpa using this
  constructor
  · intro h
    refine ⟨fun s hs => ?_, fun s t hst ht e => ?_⟩
    · refine Classical.byContradiction (fun hc => ?_)
      have := cover h ((List.range 6).erase s) (fun u hu hu2 => ⟨u, (List.mem_erase_of_ne (show u ≠ s from fun e => hc (by rw [← e]; exact hu2))).mpr (List.mem_range.mpr hu), rfl⟩)
      rw [List.length_erase_of_mem (List.mem_range.mpr hs), List.length_range] at this
      omega
    · have := cover h ((List.range 6).erase t) (fun u hu _ => by
        by_cases c : u = t
        · subst c
          exact ⟨s, (List.mem_erase_of_ne (show s ≠ u by omega)).mpr (List.mem_range.mpr (by omega)), e⟩
        · exact ⟨u, (List.mem_erase_of_ne c).mpr (List.mem_range.mpr hu), rfl⟩)
      rw [List.length_erase_of_mem (List.mem_range.mpr ht), List.length_range] at this
      omega
  · rintro ⟨h1, h2⟩ x hx
    refine Classical.byContradiction (fun hc => ?_)
    have hnd : ((List.range 6).map (dg o)).Nodup := by
      rw [List.Nodup, List.pairwise_map]
      refine List.Pairwise.imp_of_mem ?_ List.pairwise_lt_range
      intro a b _ hb hab
      exact h2 a b hab (List.mem_range.mp hb)
    have := nodup_le (l' := (List.range 6).erase x) hnd (fun y hy => by
      obtain ⟨s, s1, s2⟩ := List.mem_map.mp hy
      have s3 := List.mem_range.mp s1
      refine (List.mem_erase_of_ne (fun e => hc ⟨s, s3, by rw [s2, e]⟩)).mpr (List.mem_range.mpr ?_)
      rw [← s2]; exact h1 s s3)
    rw [List.length_erase_of_mem (List.mem_range.mpr hx), List.length_range, List.length_map, List.length_range] at this
    omega
theorem perm_max {a b c d e f : Nat} (ha : a < 6) (hb : b < 6) (hba : b ≠ a) (hc : c < 6) (hca : c ≠ a) (hcb : c ≠ b) (hd : d < 6) (hda : d ≠ a) (hdb : d ≠ b) (hdc : d ≠ c) (he : e < 6) (hea : e ≠ a) (heb : e ≠ b) (hec : e ≠ c) (hed : e ≠ d) (hf : f < 6) (hfa : f ≠ a) (hfb : f ≠ b) (hfc : f ≠ c) (hfd : f ≠ d) (hfe : f ≠ e) : 100000 * a + 10000 * b + 1000 * c + 100 * d + 10 * e + f ≤ 543210 := by
  by_cases q1 : a = 5
  · by_cases q2 : b = 4
    · by_cases q3 : c = 3
      · by_cases q4 : d = 2
        · by_cases q5 : e = 1
          · have : f = 0 := by omega
            omega
          · have : e = 0 := by omega
            omega
        · have : d ≤ 1 := by omega
          omega
      · have : c ≤ 2 := by omega
        omega
    · have : b ≤ 3 := by omega
      omega
  · omega
theorem dg_sum {o : Nat} (h : o < 1000000) : o = 100000 * dg o 5 + 10000 * dg o 4 + 1000 * dg o 3 + 100 * dg o 2 + 10 * dg o 1 + dg o 0 := by
  unfold dg
  simp only [show (10 : Nat) ^ 5 = 100000 from rfl, show (10 : Nat) ^ 4 = 10000 from rfl, show (10 : Nat) ^ 3 = 1000 from rfl, show (10 : Nat) ^ 2 = 100 from rfl, show (10 : Nat) ^ 1 = 10 from rfl, show (10 : Nat) ^ 0 = 1 from rfl]
  omega
theorem inj_max {o : Nat} (h : o < 1000000) (hi : inj6 o 6) : o ≤ 543210 := by
  rw [dg_sum h]
  have n := fun s t (a : s < t) (b : t < 6) => hi.2 s t a b
  exact perm_max (hi.1 5 (by omega)) (hi.1 4 (by omega)) (n 4 5 (by omega) (by omega)) (hi.1 3 (by omega)) (n 3 5 (by omega) (by omega)) (n 3 4 (by omega) (by omega)) (hi.1 2 (by omega)) (n 2 5 (by omega) (by omega)) (n 2 4 (by omega) (by omega)) (n 2 3 (by omega) (by omega)) (hi.1 1 (by omega)) (n 1 5 (by omega) (by omega)) (n 1 4 (by omega) (by omega)) (n 1 3 (by omega) (by omega)) (n 1 2 (by omega) (by omega)) (hi.1 0 (by omega)) (n 0 5 (by omega) (by omega)) (n 0 4 (by omega) (by omega)) (n 0 3 (by omega) (by omega)) (n 0 2 (by omega) (by omega)) (n 0 1 (by omega) (by omega))
theorem one_nI : ∀ m, m < 10 → (1 : Int32) <<< (nI m &&& 31) = nI (2 ^ m) := by decide +kernel
/-- the class's reading of an order -/
theorem take_88 {m : Nat} (hm : m < 10) (x5 : Int32) (fi ra to : Nat → Int32) : F_X4_take_88 (nI m) 0 x5 fi ra to = some (1, upd fi m x5, va_cpy to ra 0 (6 * m) 6, to) := by
  unfold F_X4_take_88
  have e : nI m * (6 : Int32) = nI (6 * m) := by rw [show (6 : Int32) = nI 6 from rfl, pk_mul, Nat.mul_comm]
  rw [if_pos rfl, gin_n hm (by omega), e, nI_clamp (show m < 2 ^ 31 by omega)]
  have hc : (¬ (0 : Int32) < 0 ∧ ¬ nI (6 * m) < 0 ∧ ¬ (6 : Int32) < 0 ∧ (0 : Int32).toNatClampNeg + (6 : Int32).toNatClampNeg ≤ 6 ∧ (nI (6 * m)).toNatClampNeg + (6 : Int32).toNatClampNeg ≤ 60) := by
    refine ⟨by decide, nI_pos (by omega), by decide, by decide, ?_⟩
    rw [nI_clamp (by omega), show (6 : Int32).toNatClampNeg = 6 from rfl]
    omega
  unfold gcp
  rw [if_pos hc, nI_clamp (by omega)]
  rfl
theorem take_26 {m o : Nat} (hm : m < 10) (ho : o < 2 ^ 31) (fi ra : Nat → Int32) : ∀ (fuel t : Nat) (x5 : Int32) (to : Nat → Int32), 6 - t < fuel → t ≤ 6 → (0 < t → x5 = nI (dg o (t - 1))) → inj6 o t → (∀ s, s < t → to (dg o s) = nI (5 - s)) →
    (inj6 o 6 ∧ o < 1000000 ∧ ∃ to', F_X4_take_26 (nI m) fuel (nI (sst o t)) (nI (o / 10 ^ t)) x5 (nI (6 - t) + (-1)) fi ra to = some (1, upd fi m (nI (dg o 5)), va_cpy to' ra 0 (6 * m) 6, to') ∧ ∀ s, s < 6 → to' (dg o s) = nI (5 - s)) ∨
    (¬ (inj6 o 6 ∧ o < 1000000) ∧ ∃ to', F_X4_take_26 (nI m) fuel (nI (sst o t)) (nI (o / 10 ^ t)) x5 (nI (6 - t) + (-1)) fi ra to = some (0, fi, ra, to')) := by
  intro fuel
  induction fuel with
  | zero => intro t x5 to h; omega
  | succ n ih =>
    intro t x5 to h ht h5 hi hto
    rw [F_X4_take_26]
    rcases Nat.lt_or_ge t 6 with hlt | hge
    · have hq := div_le' o t
      have hd := dg_lt o t
      have e10 : nI (o / 10 ^ t) - nI (o / 10 ^ t) / 10 * 10 = nI (dg o t) := nI_mod10 (by omega)
      rw [e10, nI_div10 (by omega), div_pow]
      rw [show 6 - t = (5 - t) + 1 by omega, pk_m1, if_neg (nI_pos (by omega)), show (6 : Int32) = nI 6 from rfl, inside_n (by omega) (by omega)]
      by_cases c1 : dg o t < 6
      · rw [if_pos c1, Option.bind_some, if_neg one_ne, has_s _ (show dg o t < 32 by omega), Option.bind_some, bt_nI (by omega)]
        by_cases c2 : (sst o t).testBit (dg o t) = true
        · rw [if_pos c2, if_neg one_ne]
          obtain ⟨-, s, s1, s2⟩ := (sst_bit o t _).mp c2
          exact Or.inr ⟨fun z => z.1.2 s t s1 hlt s2, to, rfl⟩
        · rw [if_neg c2, if_pos rfl, gin_n c1 (by omega), one_nI _ (by omega), or_nI, nI_clamp (by omega)]
          have hno : ∀ s, s < t → dg o s ≠ dg o t := fun s hs e => c2 ((sst_bit o t _).mpr ⟨c1, s, hs, e⟩)
          have next := ih (t + 1) (nI (dg o t)) (upd to (dg o t) (nI (5 - t))) (by omega) (by omega) (fun _ => by rw [Nat.add_sub_cancel]) ⟨fun s hs => by
            by_cases e : s = t
            · subst e; exact c1
            · exact hi.1 s (by omega), fun s u hsu hu => by
            by_cases e : u = t
            · subst e; exact hno s hsu
            · exact hi.2 s u hsu (by omega)⟩ (fun s hs => by
            by_cases e : s = t
            · subst e; rw [upd_self]
            · rw [upd_ne _ _ (hno s (by omega))]; exact hto s (by omega))
          rw [sst, if_pos c1, show 6 - (t + 1) = 5 - t by omega] at next
          exact next
      · rw [if_neg c1, Option.bind_some, if_pos rfl]
        exact Or.inr ⟨fun z => c1 (z.1.1 t hlt), to, rfl⟩
    · have e : t = 6 := by omega
      subst e
      rw [if_pos (show nI (6 - 6) + (-1) < 0 by decide), h5 (by omega)]
      by_cases c : o < 1000000
      · rw [show o / 10 ^ 6 = 0 from Nat.div_eq_of_lt c, nI_0, take_88 hm]
        exact Or.inl ⟨hi, c, to, rfl, hto⟩
      · unfold F_X4_take_88
        have hpos : 0 < o / 10 ^ 6 := Nat.div_pos (by rw [show (10 : Nat) ^ 6 = 1000000 from rfl]; omega) (by decide)
        have hq := div_le' o 6
        rw [if_neg (nI_ne0 hpos (by omega))]
        exact Or.inr ⟨fun z => c z.2, to, rfl⟩
/-- the reference's -/
theorem mwish_103 {m o : Nat} (hm : m < 10) (ho : o < 2 ^ 31) (M' told : Int32) (hw : Nat → Int32) : ∀ (fuel t : Nat) (wi : Nat → Int32), 6 - t < fuel → t ≤ 6 → (∀ s, s < t → wi (6 * m + (5 - s)) = nI (dg o s)) →
    ∃ wi', F_X12_wish_103 (nI m) M' fuel (nI (o / 10 ^ t)) (nI (6 - t) + (-1)) told hw wi = some (1, told, upd hw m 1, wi') ∧ (∀ s, s < 6 → wi' (6 * m + (5 - s)) = nI (dg o s)) ∧ ∀ j, (j < 6 * m ∨ 6 * m + 6 ≤ j) → wi' j = wi j := by
  intro fuel
  induction fuel with
  | zero => intro t wi h; omega
  | succ n ih =>
    intro t wi h ht hS
    rw [F_X12_wish_103]
    rcases Nat.lt_or_ge t 6 with hlt | hge
    · have hq := div_le' o t
      have e10 : nI (o / 10 ^ t) - nI (o / 10 ^ t) / 10 * 10 = nI (dg o t) := nI_mod10 (by omega)
      rw [e10, nI_div10 (by omega), div_pow, show 6 - t = (5 - t) + 1 by omega, pk_m1, if_neg (nI_pos (by omega)), show (6 : Int32) = nI 6 from rfl, pk_mul, nI_add, gin_n (show 6 * m + (5 - t) < 60 by omega) (by omega), nI_clamp (by omega)]
      obtain ⟨wi', g1, g2, g3⟩ := ih (t + 1) (upd wi (6 * m + (5 - t)) (nI (dg o t))) (by omega) (by omega) (fun s hs => by
        by_cases e : s = t
        · subst e; rw [upd_self]
        · rw [upd_ne _ _ (by omega)]; exact hS s (by omega))
      rw [show 6 - (t + 1) = 5 - t by omega] at g1
      exact ⟨wi', g1, g2, fun j hj => by rw [g3 j hj, upd_ne _ _ (by omega)]⟩
    · have e : t = 6 := by omega
      subst e
      rw [if_pos (show nI (6 - 6) + (-1) < 0 by decide), gin_n hm (by omega), nI_clamp (by omega)]
      exact ⟨wi, rfl, hS, fun _ _ => rfl⟩
theorem mwish_49 {m o : Nat} (ho : o < 2 ^ 31) (x2 M' told : Int32) (hw wi : Nat → Int32) : ∀ (fuel t : Nat), 6 - t < fuel → t ≤ 6 →
    F_X12_wish_49 (nI m) x2 M' fuel (nI (sst o t)) (nI (o / 10 ^ t)) (nI t) told hw wi = if sst o 6 = 63 then F_X12_wish_103 (nI m) M' FU x2 5 told hw wi else some (0, told, hw, wi) := by
  intro fuel
  induction fuel with
  | zero => intro t h; omega
  | succ n ih =>
    intro t h ht
    rw [F_X12_wish_49]
    rcases Nat.lt_or_ge t 6 with hlt | hge
    · have hq := div_le' o t
      have hd := dg_lt o t
      have e10 : nI (o / 10 ^ t) - nI (o / 10 ^ t) / 10 * 10 = nI (dg o t) := nI_mod10 (by omega)
      rw [e10, nI_div10 (by omega), div_pow, if_neg (show ¬ (6 : Int32) ≤ nI t from nI_ge (b := 6) hlt (by omega)), nI_1, one_nI _ hd, or_nI]
      have next := ih (t + 1) (by omega) (by omega)
      rw [sst] at next
      by_cases c1 : dg o t < 6
      · rw [if_pos c1] at next
        rw [if_neg (show ¬ (6 : Int32) ≤ nI (dg o t) from nI_ge (b := 6) c1 (by omega)), next]
      · rw [if_neg c1] at next
        rw [if_pos (show (6 : Int32) ≤ nI (dg o t) from nI_le (a := 6) (by omega) (by omega)), next]
    · have e : t = 6 := by omega
      subst e
      have hl := sst_lt o 6
      rw [if_pos (show (6 : Int32) ≤ nI 6 by decide)]
      by_cases c : sst o 6 = 63
      · rw [if_pos c, if_pos (show nI (sst o 6) = (63 : Int32) by rw [c]; rfl)]
      · rw [if_neg c, if_neg (show ¬ nI (sst o 6) = (63 : Int32) from fun z => c ((nI_eq (b := 63) (by omega) (by omega)).mp z))]
/-- the wishes on both sides -/
def WishOk (fi ra hw wi : Nat → Int32) : Prop := ∀ m, m < 10 → (hw m = 0 ∧ fi m = -1) ∨ (hw m = 1 ∧ ∃ w : Nat → Nat, (∀ k, k < 6 → w k < 6 ∧ wi (6 * m + k) = nI (w k) ∧ ra (6 * m + w k) = nI k) ∧ (∀ x, x < 6 → ∃ k, k < 6 ∧ w k = x) ∧ fi m = nI (w 0))
theorem WishOk.firsts {fi ra hw wi : Nat → Int32} (h : WishOk fi ra hw wi) : Firsts fi hw wi := by
  intro m hm
  rcases h m hm with ⟨a, b⟩ | ⟨a, w, b, -, c⟩
  · rw [if_pos a]; exact b
  · rw [if_neg (by rw [a]; exact one_ne), c, ← (b 0 (by omega)).2.1]
    rfl
theorem WishOk.other {fi ra hw wi fi' ra' hw' wi' : Nat → Int32} (h : WishOk fi ra hw wi) {m : Nat} (hf : ∀ j, j ≠ m → fi' j = fi j) (hh : ∀ j, j ≠ m → hw' j = hw j) (hr : ∀ j, (j < 6 * m ∨ 6 * m + 6 ≤ j) → ra' j = ra j) (hwi : ∀ j, (j < 6 * m ∨ 6 * m + 6 ≤ j) → wi' j = wi j)
    (hm : (hw' m = 0 ∧ fi' m = -1) ∨ (hw' m = 1 ∧ ∃ w : Nat → Nat, (∀ k, k < 6 → w k < 6 ∧ wi' (6 * m + k) = nI (w k) ∧ ra' (6 * m + w k) = nI k) ∧ (∀ x, x < 6 → ∃ k, k < 6 ∧ w k = x) ∧ fi' m = nI (w 0))) : WishOk fi' ra' hw' wi' := by
  intro j hj
  by_cases e : j = m
  · subst e; exact hm
  · rcases h j hj with ⟨a, b⟩ | ⟨a, w, b, c, d⟩
    · exact Or.inl ⟨by rw [hh j e]; exact a, by rw [hf j e]; exact b⟩
    · refine Or.inr ⟨by rw [hh j e]; exact a, w, fun k hk => ?_, c, by rw [hf j e]; exact d⟩
      obtain ⟨b1, b2, b3⟩ := b k hk
      refine ⟨b1, ?_, ?_⟩
      · rw [hwi _ (by omega)]; exact b2
      · rw [hr _ (by omega)]; exact b3
theorem wish_both {M : Nat} (hM : M ≤ 10) (x y told : Int32) {fi ra hw wi to : Nat → Int32} (hW : WishOk fi ra hw wi) :
    ∃ a fi' ra' to' hw' wi', F_X11_wish x y (nI M) fi ra to = some (a, fi', ra', to') ∧ F_X12_wish x y (nI M) told hw wi = some (a, 0, hw', wi') ∧ WishOk fi' ra' hw' wi' := by
  unfold F_X11_wish F_X12_wish
  rw [isMember_s, inside_s, isIn_s]
  simp only [Option.bind_some]
  by_cases hx : 0 ≤ x ∧ x < nI M
  rotate_left
  · simp only [if_neg hx, if_true]
    exact ⟨_, _, _, _, _, _, rfl, rfl, hW⟩
  simp only [if_pos hx, if_neg one_ne]
  obtain ⟨m, hm31, em⟩ := nI_of (Int32.not_lt.mpr hx.1)
  subst em
  have hmM : m < M := (nI_ltI hm31 (by omega)).mp hx.2
  have hm : m < 10 := by omega
  by_cases hy : y = -1
  · rw [if_pos hy, if_pos (show -1 ≤ y ∧ y ≤ 543210 by rw [hy]; decide), if_neg one_ne, if_pos hy]
    unfold F_X4_drop
    rw [show (10 : Int32) = nI 10 from rfl, inside_n hm31 (by omega), if_pos hm, Option.bind_some, if_neg one_ne, gin_n hm (by omega), gin_n hm (by omega), Option.bind_some, nI_clamp hm31, show vp_nar .boolean 0 = 0 by decide]
    refine ⟨_, _, _, _, _, _, rfl, rfl, hW.other (m := m) (fun j e => upd_ne _ _ e) (fun j e => upd_ne _ _ e) (fun _ _ => rfl) (fun _ _ => rfl) (Or.inl ⟨upd_self _ _ _, upd_self _ _ _⟩)⟩
  · rw [if_neg hy, if_neg hy]
    unfold F_X4_take
    rw [show (10 : Int32) = nI 10 from rfl, inside_n hm31 (by omega), if_pos hm, Option.bind_some, if_neg one_ne]
    by_cases h0 : 0 ≤ y
    · obtain ⟨o, ho, eo⟩ := nI_of (Int32.not_lt.mpr h0)
      subst eo
      rw [if_pos h0]
      have tk := take_26 (m := m) (o := o) hm ho fi ra FU 0 (-1) to (by unfold FU; omega) (by omega) (fun h => by omega) ⟨fun s hs => by omega, fun s t _ ht => by omega⟩ (fun s hs => by omega)
      rw [show sst o 0 = 0 from rfl, nI_0, show o / 10 ^ 0 = o by simp, show nI (6 - 0) + (-1) = (5 : Int32) by decide] at tk
      have hmw := mwish_49 (m := m) (o := o) ho (nI o) (nI M) 0 hw wi FU 0 (by unfold FU; omega) (by omega)
      rw [show sst o 0 = 0 from rfl, nI_0, show o / 10 ^ 0 = o by simp] at hmw
      rcases tk with ⟨t1, t2, to', t3, t4⟩ | ⟨t1, to', t3⟩
      · have hmax := inj_max t2 t1
        rw [t3, Option.bind_some]
        dsimp only
        rw [gb, if_pos (Or.inr rfl)]
        rw [if_pos (show -1 ≤ nI o ∧ nI o ≤ 543210 from ⟨Int32.le_trans (by decide) h0, nI_le (b := 543210) hmax (by omega)⟩), if_neg one_ne, hmw, if_pos ((sst_63 o).mpr ((surj_inj o).mpr t1))]
        obtain ⟨wi', w1, w2, w3⟩ := mwish_103 (m := m) (o := o) hm ho (nI M) 0 hw FU 0 wi (by unfold FU; omega) (by omega) (fun s hs => by omega)
        rw [show o / 10 ^ 0 = o by simp, show nI (6 - 0) + (-1) = (5 : Int32) by decide] at w1
        rw [w1]
        refine ⟨_, _, _, _, _, _, rfl, rfl, hW.other (m := m) (fun j e => upd_ne _ _ e) (fun j e => upd_ne _ _ e) (fun j hj => pk_cpy_out hj) w3 (Or.inr ⟨upd_self _ _ _, fun k => dg o (5 - k), fun k hk => ⟨t1.1 _ (by omega), ?_, ?_⟩, fun x hx => ?_, ?_⟩)⟩
        · have := w2 (5 - k) (by omega)
          rw [show 5 - (5 - k) = k by omega] at this
          exact this
        · have h6 := t1.1 (5 - k) (by omega)
          show va_cpy to' ra 0 (6 * m) 6 (6 * m + dg o (5 - k)) = nI k
          rw [pk_cpy_in (by omega) (by omega), show 0 + (6 * m + dg o (5 - k) - 6 * m) = dg o (5 - k) by omega, t4 _ (by omega), show 5 - (5 - k) = k by omega]
        · obtain ⟨s, s1, s2⟩ := (surj_inj o).mpr t1 x hx
          exact ⟨5 - s, by omega, by show dg o (5 - (5 - s)) = x; rw [show 5 - (5 - s) = s by omega]; exact s2⟩
        · exact upd_self _ _ _
      · rw [t3, Option.bind_some]
        dsimp only
        rw [gb, if_pos (Or.inl rfl)]
        by_cases c : -1 ≤ nI o ∧ nI o ≤ 543210
        · have hle : o ≤ 543210 := (nI_leI (b := 543210) ho (by omega)).mp c.2
          rw [if_pos c, if_neg one_ne, hmw, if_neg (fun z => t1 ⟨(surj_inj o).mp ((sst_63 o).mp z), by omega⟩)]
          exact ⟨_, _, _, _, _, _, rfl, rfl, hW⟩
        · rw [if_neg c, if_pos rfl]
          exact ⟨_, _, _, _, _, _, rfl, rfl, hW⟩
    · have hlt : ¬ (-1 ≤ y ∧ y ≤ 543210) := by
        rintro ⟨h1, -⟩
        apply hy
        rw [Int32.le_iff_toInt_le] at h0 h1
        have e0 : (0 : Int32).toInt = 0 := by decide
        have e1 : (-1 : Int32).toInt = -1 := by decide
        rw [← Int32.toInt_inj]
        omega
      rw [if_neg h0, if_neg hlt, if_pos rfl, Option.bind_some]
      dsimp only
      rw [gb, if_pos (Or.inl rfl)]
      exact ⟨_, _, _, _, _, _, rfl, rfl, hW⟩
