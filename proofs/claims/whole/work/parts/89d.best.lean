/-! best -/
/-- a of the set beats all others of it -/
def bstB (B : Nat → Nat → Bool) (q a : Nat) : Bool := q.testBit a && (List.range 6).all (fun b => b == a || !q.testBit b || B a b)
theorem bstB_iff {B : Nat → Nat → Bool} {q a : Nat} : bstB B q a = true ↔ q.testBit a = true ∧ ∀ b, b < 6 → b ≠ a → q.testBit b = true → B a b = true := by
  unfold bstB
  rw [Bool.and_eq_true, List.all_eq_true]
  constructor
  · rintro ⟨h1, h2⟩
    refine ⟨h1, fun b hb hne hq => ?_⟩
    have := h2 b (List.mem_range.mpr hb)
    simpa [hne, hq] using this
  · rintro ⟨h1, h2⟩
    refine ⟨h1, fun b hb => ?_⟩
    have hb6 := List.mem_range.mp hb
    by_cases e : b = a
    · simp [e]
    · cases hq : q.testBit b
      · simp
      · simp [h2 b hb6 e hq]
def fbs (B : Nat → Nat → Bool) (q : Nat) : Nat → Nat → Int32
  | 0, _ => -1
  | n + 1, a => if bstB B q a = true then nI a else fbs B q n (a + 1)
theorem win_best {B : Nat → Nat → Bool} {be : Nat → Int32} (hB : ∀ a, a < 6 → ∀ i, i < 32 → bt (be a) i = (decide (i < 6) && B a i)) {q a : Nat} (hq : q < 64) (ha : a < 6) : ((nI q &&& (((1 : Int32) <<< (nI a &&& 31)) ^^^ (-1))) &&& (be a ^^^ (-1))) = 0 ↔ ∀ b, b < 6 → b ≠ a → q.testBit b = true → B a b = true := by
  rw [win_iff]
  constructor
  · intro h b hb hne hqb
    have := h b (by omega) (by rw [b_and, b_not _ (by omega), b_one (by omega) (by omega), bt_nI (by omega), hqb, decide_eq_false hne]; rfl)
    rw [hB a ha b (by omega), decide_eq_true hb, Bool.true_and] at this
    exact this
  · intro h i hi hb
    rw [b_and, b_not _ hi, b_one (by omega) hi, bt_nI hi, Bool.and_eq_true] at hb
    have hi6 : i < 6 := by
      rcases Nat.lt_or_ge i 6 with c | c
      · exact c
      · rw [Nat.testBit_lt_two_pow (Nat.lt_of_lt_of_le (show q < 2 ^ 6 from hq) (Nat.pow_le_pow_right (by omega) c))] at hb
        cases hb.1
    have hne : i ≠ a := fun e => by
      have := hb.2
      rw [decide_eq_true e] at this
      cases this
    rw [hB a ha i hi, decide_eq_true hi6, Bool.true_and]
    exact h i hi6 hne hb.1
theorem beatsAll_2 {B : Nat → Nat → Bool} {be : Nat → Int32} (hB : ∀ a, a < 6 → ∀ i, i < 32 → bt (be a) i = (decide (i < 6) && B a i)) {q : Nat} (hq : q < 64) : ∀ (fuel a : Nat), 6 - a < fuel → a ≤ 6 → F_X4_beatsAll_2 (nI q) be fuel (nI a) = some (fbs B q (6 - a) a) := by
  intro fuel
  induction fuel with
  | zero => intro a h; omega
  | succ n ih =>
    intro a h ha
    rw [F_X4_beatsAll_2]
    rcases Nat.lt_or_ge a 6 with hlt | hge
    · rw [if_neg (show ¬ (6 : Int32) ≤ nI a from nI_ge (b := 6) hlt (by omega)), has_s _ (show a < 32 by omega), Option.bind_some, gin_n hlt (by omega), nI_clamp (by omega), isWithin_s, Option.bind_some, nI_1, ih (a + 1) (by omega) (by omega), bt_nI (by omega)]
      rw [show 6 - a = (6 - (a + 1)) + 1 by omega, fbs]
      simp only [win_best hB hq hlt]
      by_cases c1 : q.testBit a = true
      · rw [if_pos c1, if_neg one_ne]
        by_cases c2 : ∀ b, b < 6 → b ≠ a → q.testBit b = true → B a b = true
        · rw [if_pos c2, if_neg one_ne, if_pos (bstB_iff.mpr ⟨c1, c2⟩)]
        · rw [if_neg c2, if_pos rfl, if_neg (fun z => c2 (bstB_iff.mp z).2)]
      · rw [if_neg c1, if_pos rfl, if_neg (fun z => c1 (bstB_iff.mp z).1)]
    · have e : a = 6 := by omega
      subst e
      rw [if_pos (show (6 : Int32) ≤ nI 6 by decide)]
      rfl
section BM
variable {arg cm hw op blo day mem tld wei wi : Nat → Int32} {M' NN' vd vk : Int32}
theorem best_50 {B : Nat → Nat → Bool} {q a : Nat} (hq : q < 64) (ha : a < 6) {btr : Nat → Int32} (hB : ∀ a i, a < 6 → i < 6 → btr (6 * a + i) = if B a i = true then 1 else 0)
    (rec33 : Int32 → Int32 → Int32 → Int32 → Int32 → (Nat → Int32) → (Nat → Int32) → (Nat → Int32) → (Nat → Int32) → Option (Int32 × Int32 × Int32 × Int32 × Int32 × (Nat → Int32) × (Nat → Int32) × (Nat → Int32) × (Nat → Int32))) {al ma told we : Int32} {rb st rw0 : Nat → Int32} :
    ∀ (fuel b : Nat) (x4 : Int32), 6 - b < fuel → b ≤ 6 → (x4 = 0 ∨ x4 = 1) → (x4 = 1 ↔ q.testBit a = true ∧ ∀ b', b' < b → b' ≠ a → q.testBit b' = true → B a b' = true) →
      F_X12_best_50 (nI q) M' NN' vd vk arg cm hw op blo day mem tld wei wi rec33 fuel (nI a) x4 (nI b) al ma told we btr rb st rw0 = if bstB B q a = true then some (nI a, al, ma, told, we, btr, rb, st, rw0) else rec33 (nI (a + 1)) al ma told we btr rb st rw0 := by
  intro fuel
  induction fuel with
  | zero => intro b x4 h; omega
  | succ n ih =>
    intro b x4 h hb h01 hx
    rw [F_X12_best_50]
    unfold F_X12_best_102
    have fin0 : x4 = 0 → ¬ bstB B q a = true := by
      intro e c
      have := bstB_iff.mp c
      have e1 := hx.mpr ⟨this.1, fun b' h1 h2 h3 => this.2 b' (by omega) h2 h3⟩
      rw [e] at e1; exact one_ne e1.symm
    rcases Nat.lt_or_ge b 6 with hlt | hge
    · have e36 : (6 : Int32) * nI a + nI b = nI (6 * a + b) := by rw [show (6 : Int32) = nI 6 from rfl, pk_mul, nI_add]
      rw [if_neg (show ¬ (6 : Int32) ≤ nI b from nI_ge (b := 6) hlt (by omega)), nI_1 a]
      by_cases c0 : x4 = 0
      · rw [if_pos c0, if_pos c0, if_neg (fin0 c0)]
      · rw [if_neg c0]
        have h1 : x4 = 1 := h01.resolve_left c0
        have hh := hx.mp h1
        have ext : (b ≠ a → q.testBit b = true → B a b = true) → ∀ b', b' < b + 1 → b' ≠ a → q.testBit b' = true → B a b' = true := by
          intro hs b' x1 x2 x3
          by_cases e : b' = b
          · subst e; exact hs x2 x3
          · exact hh.2 b' (by omega) x2 x3
        by_cases c1 : b = a
        · rw [if_pos (by rw [c1]), nI_1]
          exact ih (b + 1) x4 (by omega) (by omega) h01 ⟨fun _ => ⟨hh.1, ext (fun z => absurd c1 z)⟩, fun _ => h1⟩
        · rw [if_neg (fun z => c1 ((nI_eq (by omega) (by omega)).mp z)), isOf_s _ (show b < 32 by omega), Option.bind_some, bt_nI (by omega), e36, gin_n (show 6 * a + b < 36 by omega) (by omega), nI_clamp (by omega), hB a b ha hlt, nI_1]
          by_cases c2 : q.testBit b = true
          · rw [if_pos c2, if_neg one_ne]
            by_cases c3 : B a b = true
            · rw [if_pos c3, if_neg one_ne]
              exact ih (b + 1) x4 (by omega) (by omega) h01 ⟨fun _ => ⟨hh.1, ext (fun _ _ => c3)⟩, fun _ => h1⟩
            · rw [if_neg c3, if_pos rfl]
              exact ih (b + 1) 0 (by omega) (by omega) (Or.inl rfl) ⟨fun z => absurd z.symm one_ne, fun z => absurd (z.2 b (by omega) c1 c2) c3⟩
          · rw [if_neg c2, if_pos rfl]
            exact ih (b + 1) x4 (by omega) (by omega) h01 ⟨fun _ => ⟨hh.1, ext (fun _ z => absurd z c2)⟩, fun _ => h1⟩
    · have e : b = 6 := by omega
      subst e
      rw [if_pos (show (6 : Int32) ≤ nI 6 by decide), nI_1]
      by_cases c0 : x4 = 0
      · rw [if_pos c0, if_neg (fin0 c0)]
      · rw [if_neg c0, if_pos (bstB_iff.mpr (hx.mp (h01.resolve_left c0)))]
theorem best_33 {B : Nat → Nat → Bool} {q : Nat} (hq : q < 64) {btr : Nat → Int32} (hB : ∀ a i, a < 6 → i < 6 → btr (6 * a + i) = if B a i = true then 1 else 0) {al ma told we : Int32} {rb st rw0 : Nat → Int32} :
    ∀ (fuel a : Nat), 6 - a < fuel → a ≤ 6 → F_X12_best_33 (nI q) M' NN' vd vk arg cm hw op blo day mem tld wei wi fuel (nI a) al ma told we btr rb st rw0 = some (fbs B q (6 - a) a, al, ma, told, we, btr, rb, st, rw0) := by
  intro fuel
  induction fuel with
  | zero => intro a h; omega
  | succ n ih =>
    intro a h ha
    rw [F_X12_best_33]
    rcases Nat.lt_or_ge a 6 with hlt | hge
    · have h50 := best_50 (M' := M') (NN' := NN') (vd := vd) (vk := vk) (arg := arg) (cm := cm) (hw := hw) (op := op) (blo := blo) (day := day) (mem := mem) (tld := tld) (wei := wei) (wi := wi) (al := al) (ma := ma) (told := told) (we := we) (rb := rb) (st := st) (rw0 := rw0) hq hlt hB (F_X12_best_33 (nI q) M' NN' vd vk arg cm hw op blo day mem tld wei wi n) FU 0 (if q.testBit a = true then 1 else 0) (by unfold FU; omega) (by omega) (ite01 _).symm.symm (by
        by_cases c : q.testBit a = true
        · rw [if_pos c]; exact ⟨fun _ => ⟨c, fun b' z => by omega⟩, fun _ => rfl⟩
        · rw [if_neg c]; exact ⟨fun z => absurd z.symm one_ne, fun z => absurd z.1 c⟩)
      rw [nI_0] at h50
      rw [if_neg (show ¬ (6 : Int32) ≤ nI a from nI_ge (b := 6) hlt (by omega)), isOf_s _ (show a < 32 by omega), Option.bind_some, bt_nI (by omega), h50, ih (a + 1) (by omega) (by omega), show 6 - a = (6 - (a + 1)) + 1 by omega, fbs]
      by_cases c : bstB B q a = true
      · rw [if_pos c, if_pos c]
      · rw [if_neg c, if_neg c]
    · have e : a = 6 := by omega
      subst e
      rw [if_pos (show (6 : Int32) ≤ nI 6 by decide)]
      rfl
end BM
section BB
variable {mem day tld blo wei : Nat → Int32} {d k : Int32} {N M : Nat}
theorem best_both (hM : M ≤ 10) (hn : N ≤ 200) (hmem : ∀ i, i < N → ∃ mi, mi < M ∧ mem i = nI mi) {sin sal : Int32} {mo sw : Nat → Int32} (S : Seated mem day tld blo wei d k N sin sal mo sw) {L : List (Nat × Nat)} {codes fr : Int32} {code bits cm op arg : Nat → Int32} {x y : Int32} (R : ∀ r, r < 4 → x = nI r → RuleIs L codes code r cm op arg) (hfr : ¬ fr = 0 → Truth sin sal mo sw L bits 1024) {fi ra hw wi : Nat → Int32} (hW : WishOk fi ra hw wi) (al ma we told : Int32) (cst be st rb rw0 btr : Nat → Int32) :
    ∃ a o1, F_X11_best x y be fi ra codes code cst fr bits sal sin mo sw = some (a, o1) ∧ ∃ o2, F_X12_best x y al ma (nI M) (nI N) told d k we arg btr rb cm hw op blo day mem tld wei st rw0 wi = some (a, o2) := by
  have hsin : ∀ i, 10 ≤ i → i < 32 → bt sin i = false := by rw [S.1]; exact sAll_hi (Nat.le_refl _)
  unfold F_X11_best F_X12_best
  rw [isRule_s, inside_s, inside_in (a := 63) (by decide) y, isIn_s, isIn_s]
  simp only [Option.bind_some]
  by_cases hx : 0 ≤ x ∧ x < 4
  rotate_left
  · simp only [if_neg hx, if_true]
    exact ⟨_, _, rfl, _, rfl⟩
  simp only [if_pos hx, if_neg one_ne]
  obtain ⟨r, hr31, er⟩ := nI_of (Int32.not_lt.mpr hx.1)
  subst er
  have hr : r < 4 := (nI_ltI (b := 4) hr31 (by omega)).mp hx.2
  have hR := R r hr rfl
  by_cases hy : 0 ≤ y ∧ y ≤ 63
  rotate_left
  · have hy2 : ¬ (1 ≤ y ∧ y ≤ 63) := fun z => hy ⟨Int32.le_trans (by decide) z.1, z.2⟩
    simp only [if_neg hy, if_neg hy2, if_true]
    exact ⟨_, _, rfl, _, rfl⟩
  obtain ⟨q, hq, eq⟩ := nI_of2 (x := y) (M := 63) (n := 63) (by decide) (Int32.not_lt.mpr hy.1) hy.2
  subst eq
  simp only [if_pos hy, if_neg one_ne]
  obtain ⟨st1, be1, c1, c2⟩ := compare_s (sal := sal) (mo := mo) (sw := sw) (fi := fi) (ra := ra) hR.1 hsin hR.2.2.1 fr hfr cst be
  rw [gin_n hr (by omega), hR.2.1, c1, Option.bind_some]
  dsimp only
  have hba := beatsAll_2 (B := bts sin sal mo sw fi ra L) c2 (show q < 64 by omega) FU 0 (by unfold FU; omega) (by omega)
  rw [nI_0] at hba
  unfold F_X4_beatsAll
  rw [hba, Option.bind_some]
  by_cases h0 : q = 0
  · subst h0
    rw [if_neg (show ¬ ((1 : Int32) ≤ nI 0 ∧ nI 0 ≤ 63) by decide), if_pos rfl]
    have : fbs (bts sin sal mo sw fi ra L) 0 (6 - 0) 0 = -1 := by
      have key : ∀ n a, fbs (bts sin sal mo sw fi ra L) 0 n a = -1 := by
        intro n
        induction n with
        | zero => intro a; rfl
        | succ n ih => intro a; rw [fbs, if_neg (fun z => by have := (bstB_iff.mp z).1; simp at this), ih]
      exact key _ _
    rw [this]
    exact ⟨_, _, rfl, _, rfl⟩
  · obtain ⟨bt1, st2, f1, f2⟩ := findBeats_s hM hn hmem S hr hR hW al ma we btr st rb rw0
    rw [if_pos (show (1 : Int32) ≤ nI q ∧ nI q ≤ 63 from ⟨nI_le (a := 1) (by omega) (by omega), hy.2⟩), if_neg one_ne, f1, Option.bind_some]
    dsimp only
    have h33 := best_33 (M' := nI M) (NN' := nI N) (vd := d) (vk := k) (arg := arg) (cm := cm) (hw := hw) (op := op) (blo := blo) (day := day) (mem := mem) (tld := tld) (wei := wei) (wi := wi) (al := sin) (ma := sMany mem day tld blo d k N M) (told := 0) (we := sSum mem day tld blo wei d k N M) (rb := (fun j => if j < M then sB mem day tld blo d k N j else rb j)) (st := st2) (rw0 := (fun j => if j < M then sW mem day tld blo wei d k N j else rw0 j)) (q := q) (by omega) f2 FU 0 (by unfold FU; omega) (by omega)
    rw [nI_0] at h33
    rw [h33]
    exact ⟨_, _, rfl, _, rfl⟩
end BB
