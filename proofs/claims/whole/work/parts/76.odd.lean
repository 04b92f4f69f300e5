/-! odd: the spoiler, and the loops of both sides -/
/-- the least member from i on (n of them) with which the set q does not carry any more, or -1 -/
def spl (sin : Int32) (bits : Nat → Int32) (q : Nat) : Nat → Nat → Int32
  | 0, _ => -1
  | n + 1, i => if bt sin i = true ∧ bt (nI q) i = false ∧ ¬ tb bits (q ||| 2 ^ i) = true then nI i else spl sin bits q n (i + 1)
theorem spl_rng {sin : Int32} {bits : Nat → Int32} {q : Nat} : ∀ n i, spl sin bits q n i = -1 ∨ ∃ j, i ≤ j ∧ j < i + n ∧ spl sin bits q n i = nI j := by
  intro n
  induction n with
  | zero => intro i; exact Or.inl rfl
  | succ n ih =>
    intro i
    rw [spl]
    split
    · exact Or.inr ⟨i, Nat.le_refl _, by omega, rfl⟩
    · rcases ih (i + 1) with h | ⟨j, h1, h2, h3⟩
      · exact Or.inl h
      · exact Or.inr ⟨j, by omega, by omega, h3⟩
theorem spl_out {sin : Int32} {bits : Nat → Int32} {q : Nat} : ∀ n i, (∀ j, i ≤ j → j < i + n → bt sin j = false) → spl sin bits q n i = -1 := by
  intro n
  induction n with
  | zero => intro i _; rfl
  | succ n ih =>
    intro i h
    rw [spl, if_neg (fun c => by rw [h i (Nat.le_refl _) (by omega)] at c; cases c.1), ih (i + 1) (fun j a b => h j (by omega) (by omega))]
theorem spl_cut {sin : Int32} {bits : Nat → Int32} {q : Nat} (e : Nat) : ∀ n i, (∀ j, i + n ≤ j → j < i + n + e → bt sin j = false) → spl sin bits q (n + e) i = spl sin bits q n i := by
  intro n
  induction n with
  | zero =>
    intro i h
    rw [Nat.zero_add, spl_out e i (fun j a b => h j (by omega) (by omega))]; rfl
  | succ n ih =>
    intro i h
    rw [show n + 1 + e = (n + e) + 1 by omega, spl, spl]
    split
    · rfl
    · exact ih (i + 1) (fun j a b => h j (by omega) (by omega))
theorem spoiler_11 {sin : Int32} {bits : Nat → Int32} {q : Nat} (hq : q < 1024) : ∀ (fuel i : Nat), 10 - i < fuel → i ≤ 10 → F_X9_spoiler_11 (nI q) sin bits fuel (sin &&& (nI q ^^^ (-1))) (nI i) = some (spl sin bits q (10 - i) i) := by
  intro fuel
  induction fuel with
  | zero => intro i h; omega
  | succ n ih =>
    intro i h hi
    rw [F_X9_spoiler_11]
    rcases Nat.lt_or_ge i 10 with hlt | hge
    · have next := ih (i + 1) (by omega) (by omega)
      rw [if_neg (show ¬ (10 : Int32) ≤ nI i from nI_ge (b := 10) hlt (by omega)), has_s _ (show i < 32 by omega), b_and, b_not _ (show i < 32 by omega), nI_1, or_one hq hlt, at_s (or_lt hq hlt), next]
      simp only [Option.bind_some]
      rw [show 10 - i = (10 - (i + 1)) + 1 by omega, spl]
      by_cases c1 : bt sin i = true
      · by_cases c2 : bt (nI q) i = true
        · rw [c1, c2]
          simp
        · have c2' : bt (nI q) i = false := by simpa using c2
          rw [c1, c2']
          by_cases c3 : tb bits (q ||| 2 ^ i) = true
          · simp [c3]
          · simp [c3]
      · have c1' : bt sin i = false := by simpa using c1
        rw [c1']
        simp
    · have e : i = 10 := by omega
      subst e
      rw [if_pos (show (10 : Int32) ≤ nI 10 from nI_le (a := 10) (Nat.le_refl _) (by omega))]
      rfl
theorem spoiler_s {sin : Int32} {bits : Nat → Int32} {q : Nat} (hq : q < 1024) : F_X9_spoiler (nI q) sin bits = some (spl sin bits q 10 0) := by
  unfold F_X9_spoiler
  have h := spoiler_11 (sin := sin) (bits := bits) hq FU 0 (by unfold FU; omega) (by omega)
  rw [nI_0] at h
  exact h
/-- the first odd set from q on, or -1 -/
def os (sin : Int32) (bits : Nat → Int32) : Nat → Nat → Int32
  | 0, _ => -1
  | n + 1, q => if tb bits q = true ∧ ¬ spl sin bits q 10 0 = -1 then nI q else os sin bits n (q + 1)
theorem os_rng {sin : Int32} {bits : Nat → Int32} : ∀ n q, os sin bits n q = -1 ∨ ∃ j, q ≤ j ∧ j < q + n ∧ os sin bits n q = nI j := by
  intro n
  induction n with
  | zero => intro q; exact Or.inl rfl
  | succ n ih =>
    intro q
    rw [os]
    split
    · exact Or.inr ⟨q, Nat.le_refl _, by omega, rfl⟩
    · rcases ih (q + 1) with h | ⟨j, h1, h2, h3⟩
      · exact Or.inl h
      · exact Or.inr ⟨j, by omega, by omega, h3⟩
theorem os_out {sin : Int32} {bits : Nat → Int32} : ∀ n q, (∀ j, q ≤ j → j < q + n → ¬ tb bits j = true) → os sin bits n q = -1 := by
  intro n
  induction n with
  | zero => intro q _; rfl
  | succ n ih =>
    intro q h
    rw [os, if_neg (fun c => h q (Nat.le_refl _) (by omega) c.1), ih (q + 1) (fun j a b => h j (by omega) (by omega))]
theorem oddSet_2 {kin : Nat} {bits : Nat → Int32} (hk : kin < 1024) (hT : ∀ j, j < 1024 → tb bits j = true → (nI j &&& (nI kin ^^^ (-1))) = 0) : ∀ (fuel q : Nat), 1025 - q < fuel → q ≤ kin + 1 → F_X9_oddSet_2 (nI kin) bits fuel (nI q) = some (os (nI kin) bits (1024 - q) q) := by
  intro fuel
  induction fuel with
  | zero => intro q h; omega
  | succ n ih =>
    intro q h hq
    rw [F_X9_oddSet_2]
    rcases Nat.lt_or_ge kin q with hlt | hge
    · rw [if_pos (nI_lt hlt (by omega)), os_out]
      intro j a b c
      have := win_le (by omega) hk (hT j (by omega) c)
      omega
    · have hq1 : q < 1024 := by omega
      have next := ih (q + 1) (by omega) (by omega)
      rw [if_neg (nI_nlt hge (by omega)), isWithin_s, at_s hq1, spoiler_s hq1, nI_1, next]
      simp only [Option.bind_some]
      rw [show 1024 - q = (1024 - (q + 1)) + 1 by omega, os]
      by_cases c1 : tb bits q = true
      · rw [if_pos (hT q hq1 c1), if_neg one_ne, if_pos c1, if_neg one_ne]
        by_cases c2 : spl (nI kin) bits q 10 0 = -1
        · rw [if_pos c2, if_neg (fun z => z.2 c2)]
        · rw [if_neg c2, if_pos ⟨c1, c2⟩]
      · rw [if_neg (show ¬ (tb bits q = true ∧ ¬ spl (nI kin) bits q 10 0 = -1) from fun z => c1 z.1)]
        by_cases c0 : (nI q &&& (nI kin ^^^ (-1))) = 0
        · rw [if_pos c0, if_neg one_ne, if_neg c1, if_pos rfl]
        · rw [if_neg c0, if_pos rfl]
theorem odd_42 {M q : Nat} {bits ca arg cm op blo day mem tld wei rb st rw0 : Nat → Int32} {sin x NN' vd vk ma told we : Int32} (hM : M ≤ 10) (hq : q < 1024) (hca : ∀ z, z < 1024 → ca z = if tb bits z = true then 1 else 0)
    (rec32 : Int32 → Int32 → Int32 → Int32 → Int32 → (Nat → Int32) → (Nat → Int32) → (Nat → Int32) → (Nat → Int32) → Option (Int32 × Int32 × Int32 × Int32 × Int32 × (Nat → Int32) × (Nat → Int32) × (Nat → Int32) × (Nat → Int32))) :
    ∀ (fuel i : Nat), M - i < fuel → i ≤ M → F_X12_odd_42 x (nI M) NN' vd vk arg cm op blo day mem tld wei rec32 fuel (nI q) (nI i) sin ma told we rb ca st rw0 =
      if tb bits q = true ∧ ¬ spl sin bits q (M - i) i = -1 then some (if x = 0 then nI q else spl sin bits q (M - i) i, sin, ma, told, we, rb, ca, st, rw0) else rec32 (nI (q + 1)) sin ma told we rb ca st rw0 := by
  intro fuel
  induction fuel with
  | zero => intro i h; omega
  | succ n ih =>
    intro i h hi
    rw [F_X12_odd_42, nI_1]
    rcases Nat.lt_or_ge i M with hlt | hge
    · have next := ih (i + 1) (by omega) (by omega)
      rw [if_neg (nI_ge hlt (by omega)), gin_n hq (by omega), nI_clamp (by omega), hca q hq, isOf_s _ (show i < 32 by omega), isOf_s _ (show i < 32 by omega), or_one hq (by omega), gin_n (or_lt hq (by omega)) (by omega), nI_clamp (by have := or_lt (m := i) hq (by omega); omega), hca _ (or_lt hq (by omega)), nI_1, next]
      simp only [Option.bind_some]
      rw [show M - i = (M - (i + 1)) + 1 by omega, spl]
      by_cases c0 : tb bits q = true
      · rw [if_pos c0, if_neg one_ne]
        by_cases c1 : bt sin i = true
        · rw [if_pos c1, if_neg one_ne]
          by_cases c2 : bt (nI q) i = true
          · rw [if_pos c2, if_neg one_ne]
            simp [c2]
          · have c2' : bt (nI q) i = false := by simpa using c2
            rw [if_neg c2, if_pos rfl]
            by_cases c3 : tb bits (q ||| 2 ^ i) = true
            · rw [if_pos c3, if_neg one_ne]
              simp [c3]
            · rw [if_neg c3, if_pos rfl, if_pos (show bt sin i = true ∧ bt (nI q) i = false ∧ ¬ tb bits (q ||| 2 ^ i) = true from ⟨c1, c2', c3⟩), if_pos (show tb bits q = true ∧ ¬ nI i = -1 from ⟨c0, neg1_ne (by omega)⟩)]
              by_cases cx : x = 0
              · rw [if_pos cx, if_pos cx]
              · rw [if_neg cx, if_neg cx]
        · rw [if_neg c1, if_pos rfl]
          simp [c1]
      · rw [if_neg c0, if_pos rfl, if_neg (fun z => c0 z.1)]
    · have e : i = M := by omega
      subst e
      rw [if_pos (nI_le (Nat.le_refl _) (by omega)), Nat.sub_self, if_neg (fun z => z.2 rfl)]
theorem odd_32 {M : Nat} {bits ca arg cm op blo day mem tld wei rb st rw0 : Nat → Int32} {sin x NN' vd vk ma told we : Int32} (hM : M ≤ 10) (hca : ∀ z, z < 1024 → ca z = if tb bits z = true then 1 else 0) (hs : ∀ i, M ≤ i → i < 32 → bt sin i = false) :
    ∀ (fuel q : Nat), 1024 - q < fuel → q ≤ 1024 → F_X12_odd_32 x (nI M) NN' vd vk arg cm op blo day mem tld wei fuel (nI q) sin ma told we rb ca st rw0 =
      some (if os sin bits (1024 - q) q = -1 then -1 else if x = 0 then os sin bits (1024 - q) q else spl sin bits (os sin bits (1024 - q) q).toNatClampNeg 10 0, sin, ma, told, we, rb, ca, st, rw0) := by
  intro fuel
  induction fuel with
  | zero => intro q h; omega
  | succ n ih =>
    intro q h hq
    rw [F_X12_odd_32]
    rcases Nat.lt_or_ge q 1024 with hlt | hge
    · have next := ih (q + 1) (by omega) (by omega)
      have h42 := odd_42 (bits := bits) (ca := ca) (arg := arg) (cm := cm) (op := op) (blo := blo) (day := day) (mem := mem) (tld := tld) (wei := wei) (rb := rb) (st := st) (rw0 := rw0) (sin := sin) (x := x) (NN' := NN') (vd := vd) (vk := vk) (ma := ma) (told := told) (we := we) hM hlt hca (F_X12_odd_32 x (nI M) NN' vd vk arg cm op blo day mem tld wei n) FU 0 (by unfold FU; omega) (by omega)
      rw [nI_0, Nat.sub_zero] at h42
      have ecut : spl sin bits q M 0 = spl sin bits q 10 0 := by
        have := spl_cut (sin := sin) (bits := bits) (q := q) (10 - M) M 0 (fun j a b => hs j (by omega) (by omega))
        rw [show M + (10 - M) = 10 by omega] at this
        exact this.symm
      rw [if_neg (show ¬ (1024 : Int32) ≤ nI q from nI_ge (b := 1024) hlt (by omega)), h42, next, ecut]
      rw [show 1024 - q = (1024 - (q + 1)) + 1 by omega, os]
      by_cases c : tb bits q = true ∧ ¬ spl sin bits q 10 0 = -1
      · simp only [if_pos c, if_neg (neg1_ne (show q < 2 ^ 31 by omega)), nI_clamp (show q < 2 ^ 31 by omega)]
      · simp only [if_neg c]
    · have e : q = 1024 := by omega
      subst e
      rw [if_pos (show (1024 : Int32) ≤ nI 1024 from nI_le (a := 1024) (Nat.le_refl _) (by omega))]
      rfl
