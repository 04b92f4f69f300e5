/-! leasts, least: what they find -/
theorem less_nI {a q : Nat} (ha : a < 1024) : nI a &&& (nI q ^^^ (-1)) = nI (a &&& (1023 ^^^ q)) := by
  apply b_ext
  intro i hi
  rw [b_and, b_not _ hi, bt_nI hi, bt_nI hi, bt_nI hi, Nat.testBit_and, Nat.testBit_xor]
  rcases Nat.lt_or_ge i 10 with c | c
  · rw [(by decide +kernel : ∀ i, i < 10 → (1023 : Nat).testBit i = true) i c, Bool.true_xor]
  · rw [Nat.testBit_lt_two_pow (Nat.lt_of_lt_of_le (show a < 2 ^ 10 from ha) (Nat.pow_le_pow_right (by omega) c)), Bool.false_and, Bool.false_and]
theorem and_lt' {a q : Nat} (ha : a < 1024) : a &&& q < 1024 := Nat.lt_of_le_of_lt Nat.and_le_left ha
theorem xor_one {q m : Nat} (hm : m < 10) : nI q ^^^ ((1 : Int32) <<< (nI m &&& 31)) = nI (q ^^^ 2 ^ m) := by
  apply b_ext
  intro i hi
  rw [b_xor, bt_nI hi, bt_nI hi, b_one (by omega) hi, Nat.testBit_xor, Nat.testBit_two_pow]
  congr 1
  exact decide_eq_decide.mpr (by omega)
theorem xor_lt {q m : Nat} (hq : q < 1024) (hm : m < 10) : q ^^^ 2 ^ m < 1024 := Nat.xor_lt_two_pow (n := 10) hq (Nat.pow_lt_pow_right (by omega) hm)
/-- a set does: it carries, or (stopping) the others that are in do not -/
def dz (stp : Bool) (kin : Nat) (bits : Nat → Int32) (q : Nat) : Bool := if stp = true then !tb bits (kin &&& (1023 ^^^ q)) else tb bits q
/-- a least one -/
def mnP (stp : Bool) (kin : Nat) (bits : Nat → Int32) (q : Nat) : Prop := q &&& kin = q ∧ dz stp kin bits q = true ∧ ∀ p, p &&& q = p → p < q → dz stp kin bits p = false
noncomputable def mnB (stp : Bool) (kin : Nat) (bits : Nat → Int32) (q : Nat) : Bool := @decide (mnP stp kin bits q) (Classical.propDecidable _)
theorem mnB_iff {stp : Bool} {kin : Nat} {bits : Nat → Int32} {q : Nat} : mnB stp kin bits q = true ↔ mnP stp kin bits q := by
  unfold mnB
  exact @decide_eq_true_iff _ (Classical.propDecidable _)
noncomputable def mins (stp : Bool) (kin : Nat) (bits : Nat → Int32) (n : Nat) : List Nat := (List.range n).filter (mnB stp kin bits)
section MN
variable {stp : Bool} {kin : Nat} {bits : Nat → Int32}
theorem mins_y {n : Nat} (h : mnB stp kin bits n = true) : mins stp kin bits (n + 1) = mins stp kin bits n ++ [n] := by
  unfold mins
  rw [List.range_succ, List.filter_append]
  congr 1
  simp [List.filter, h]
theorem mins_n {n : Nat} (h : ¬ mnB stp kin bits n = true) : mins stp kin bits (n + 1) = mins stp kin bits n := by
  unfold mins
  rw [List.range_succ, List.filter_append]
  simp [List.filter, h]
theorem mins_len {n : Nat} (hn : n ≤ 1024) : (mins stp kin bits n).length ≤ 252 := by
  unfold mins
  refine sperner (List.Pairwise.filter _ List.nodup_range) (fun x hx => ?_) (fun a ha b hb hab => ?_)
  · have := List.mem_range.mp (List.mem_filter.mp hx).1
    omega
  · have h1 := mnB_iff.mp (List.mem_filter.mp ha).2
    have h2 := mnB_iff.mp (List.mem_filter.mp hb).2
    have hle := sub_le hab
    rcases Nat.lt_or_ge a b with c | c
    · have := h2.2.2 a hab c
      rw [h1.2.1] at this
      cases this
    · omega
theorem mins_get {n i : Nat} (h : i < (mins stp kin bits n).length) : ∀ t, (mins stp kin bits (n + t))[i]? = (mins stp kin bits n)[i]? ∧ (mins stp kin bits n).length ≤ (mins stp kin bits (n + t)).length := by
  intro t
  induction t with
  | zero => exact ⟨rfl, Nat.le_refl _⟩
  | succ t ih =>
    rw [← Nat.add_assoc]
    by_cases c : mnB stp kin bits (n + t) = true
    · rw [mins_y c, List.getElem?_append_left (Nat.lt_of_lt_of_le h ih.2), List.length_append]
      exact ⟨ih.1, by omega⟩
    · rw [mins_n c]; exact ih
theorem mins_cut (hk : kin < 1024) : ∀ t, mins stp kin bits (kin + 1 + t) = mins stp kin bits (kin + 1) := by
  intro t
  induction t with
  | zero => rfl
  | succ t ih =>
    rw [← Nat.add_assoc, mins_n, ih]
    intro c
    have := sub_le (mnB_iff.mp c).1
    omega
theorem does_s {ca : Nat → Int32} (hk : kin < 1024) {p : Nat} (hp : p < 1024) (hca : ∀ z, z < 1024 → ca z = if tb bits z = true then 1 else 0) : F_X12_does (if stp = true then 1 else 0) (nI p) (nI kin) ca = some (if dz stp kin bits p = true then 1 else 0) := by
  unfold F_X12_does dz
  cases stp
  · rw [if_pos (show (if false = true then (1 : Int32) else 0) = 0 by decide), gin_n hp (by omega), nI_clamp (by omega), hca _ hp, gb, if_pos (ite01 _)]
    rfl
  · rw [if_neg (show ¬ (if true = true then (1 : Int32) else 0) = 0 by decide), less_nI hk, gin_n (and_lt' hk) (by omega), nI_clamp (by have := and_lt' (q := 1023 ^^^ p) hk; omega), hca _ (and_lt' hk)]
    rw [if_pos (show true = true from rfl)]
    by_cases c : tb bits (kin &&& (1023 ^^^ p)) = true
    · rw [if_pos c, if_neg one_ne, c]; rfl
    · have c' : tb bits (kin &&& (1023 ^^^ p)) = false := by simpa using c
      rw [if_neg c, if_pos rfl, c']; rfl
theorem isLeast_13 {ca : Nat → Int32} (hk : kin < 1024) (hca : ∀ z, z < 1024 → ca z = if tb bits z = true then 1 else 0) {q : Nat} (hq : q < 1024) :
    ∀ (fuel part : Nat), part < fuel → part ≤ q → part &&& q = part → (∀ p, p &&& q = p → part ≤ p → p < q → dz stp kin bits p = false) →
      ∃ v, F_X12_isLeast_13 (if stp = true then 1 else 0) (nI q) (nI kin) ca fuel (nI part) = some v ∧ (v = 0 ∨ v = 1) ∧ (v = 1 ↔ ∀ p, p &&& q = p → p < q → dz stp kin bits p = false) := by
  intro fuel
  induction fuel with
  | zero => intro part h; omega
  | succ n ih =>
    intro part h hle hsub hinv
    rw [F_X12_isLeast_13]
    by_cases c : part = 0
    · rw [c, if_pos nI_0]
      exact ⟨1, rfl, Or.inr rfl, fun _ p h1 h2 => hinv p h1 (by omega) h2, fun _ => rfl⟩
    · have e1 : nI part - 1 = nI (part - 1) := by rw [show (1 : Int32) = nI 1 from rfl, pk_sub (by omega)]
      rw [if_neg (nI_ne0 (by omega) (by omega)), e1, nx_and]
      have hp1 : (part - 1) &&& q ≤ part - 1 := Nat.and_le_left
      rw [does_s hk (by omega) hca, Option.bind_some]
      have hs' : ((part - 1) &&& q) &&& q = (part - 1) &&& q := by rw [Nat.and_assoc, Nat.and_self]
      by_cases cd : dz stp kin bits ((part - 1) &&& q) = true
      · rw [if_pos cd, if_neg one_ne]
        refine ⟨0, rfl, Or.inl rfl, fun e => absurd e.symm one_ne, fun e => ?_⟩
        have := e _ hs' (by omega)
        rw [cd] at this; cases this
      · rw [if_neg cd, if_pos rfl]
        refine ih _ (by omega) (by omega) hs' (fun p h1 h2 h3 => ?_)
        rcases Nat.lt_or_ge p part with g | g
        · have := submask 10 p part q (by omega) h1 hsub g
          have e : p = (part - 1) &&& q := by omega
          rw [e]; simpa using cd
        · exact hinv p h1 g h3
theorem isLeast_s {ca : Nat → Int32} (hk : kin < 1024) (hca : ∀ z, z < 1024 → ca z = if tb bits z = true then 1 else 0) {q : Nat} (hq : q < 1024) (hw : q &&& kin = q) :
    F_X12_isLeast (if stp = true then 1 else 0) (nI q) (nI kin) ca = some (if mnB stp kin bits q = true then 1 else 0) := by
  unfold F_X12_isLeast
  rw [does_s hk hq hca, Option.bind_some]
  by_cases c : dz stp kin bits q = true
  · rw [if_pos c, if_neg one_ne]
    obtain ⟨v, h1, h2, h3⟩ := isLeast_13 (stp := stp) hk hca hq FU q (by unfold FU; omega) (Nat.le_refl _) (Nat.and_self q) (fun p _ a b => by omega)
    rw [h1]
    by_cases d : mnB stp kin bits q = true
    · rw [if_pos d, h3.mpr (mnB_iff.mp d).2.2]
    · rw [if_neg d]
      rcases h2 with e | e
      · rw [e]
      · exact absurd (mnB_iff.mpr ⟨hw, c, h3.mp e⟩) d
  · rw [if_neg c, if_pos rfl, if_neg (fun d => c (mnB_iff.mp d).2.1)]
theorem leasts_35 {ca arg cm op blo day mem tld wei rb st rw0 : Nat → Int32} {M' NN' vd vk ma told we : Int32} (hk : kin < 1024) (hca : ∀ z, z < 1024 → ca z = if tb bits z = true then 1 else 0) :
    ∀ (fuel q : Nat), 1024 - q < fuel → q ≤ 1024 → F_X12_leasts_35 (if stp = true then 1 else 0) M' NN' vd vk arg cm op blo day mem tld wei fuel (nI (mins stp kin bits q).length) (nI q) (nI kin) ma told we rb ca st rw0 = some (nI (mins stp kin bits 1024).length, nI kin, ma, told, we, rb, ca, st, rw0) := by
  intro fuel
  induction fuel with
  | zero => intro q h; omega
  | succ n ih =>
    intro q h hq
    rw [F_X12_leasts_35]
    rcases Nat.lt_or_ge q 1024 with hlt | hge
    · have next := ih (q + 1) (by omega) (by omega)
      rw [if_neg (show ¬ (1024 : Int32) ≤ nI q from nI_ge (b := 1024) hlt (by omega)), isSet_s (nI_hi hk), isWithin_s, Option.bind_some, nI_1, nI_1]
      by_cases c : (nI q &&& (nI kin ^^^ (-1))) = 0
      · rw [if_pos c, if_neg one_ne, isLeast_s hk hca hlt ((win_sub hlt hk).mp c), Option.bind_some]
        by_cases d : mnB stp kin bits q = true
        · rw [mins_y d, List.length_append] at next
          rw [if_pos d, if_neg one_ne]; exact next
        · rw [mins_n d] at next
          rw [if_neg d, if_pos rfl]; exact next
      · have d : ¬ mnB stp kin bits q = true := fun d => c ((win_sub hlt hk).mpr (mnB_iff.mp d).1)
        rw [mins_n d] at next
        rw [if_neg c, if_pos rfl]; exact next
    · have e : q = 1024 := by omega
      subst e
      rw [if_pos (show (1024 : Int32) ≤ nI 1024 from nI_le (a := 1024) (Nat.le_refl _) (by omega))]
/-- the i-th of the least ones, or none -/
noncomputable def ith (stp : Bool) (kin : Nat) (bits : Nat → Int32) (i : Nat) : Int32 := match (mins stp kin bits 1024)[i]? with
  | some x => nI x
  | none => -1
theorem least_40 {ca arg cm op blo day mem tld wei rb st rw0 : Nat → Int32} {M' NN' vd vk ma told we : Int32} (hk : kin < 1024) (hca : ∀ z, z < 1024 → ca z = if tb bits z = true then 1 else 0) {i : Nat} (hi : i < 2 ^ 31) :
    ∀ (fuel q : Nat), 1024 - q < fuel → q ≤ 1024 → (mins stp kin bits q).length ≤ i → F_X12_least_40 (if stp = true then 1 else 0) (nI i) M' NN' vd vk arg cm op blo day mem tld wei fuel (nI (mins stp kin bits q).length) (nI q) (nI kin) ma told we rb ca st rw0 = some (ith stp kin bits i, nI kin, ma, told, we, rb, ca, st, rw0) := by
  intro fuel
  induction fuel with
  | zero => intro q h; omega
  | succ n ih =>
    intro q h hq hle
    have hl := mins_len (stp := stp) (kin := kin) (bits := bits) hq
    rw [F_X12_least_40]
    rcases Nat.lt_or_ge q 1024 with hlt | hge
    · have next := ih (q + 1) (by omega) (by omega)
      rw [if_neg (show ¬ (1024 : Int32) ≤ nI q from nI_ge (b := 1024) hlt (by omega)), isSet_s (nI_hi hk), isWithin_s, Option.bind_some, nI_1, nI_1]
      by_cases c : (nI q &&& (nI kin ^^^ (-1))) = 0
      · rw [if_pos c, if_neg one_ne, isLeast_s hk hca hlt ((win_sub hlt hk).mp c), Option.bind_some]
        by_cases d : mnB stp kin bits q = true
        · rw [if_pos d, if_neg one_ne]
          by_cases e : (mins stp kin bits q).length = i
          · rw [if_pos (by rw [e])]
            have g := (mins_get (stp := stp) (kin := kin) (bits := bits) (n := q + 1) (i := i) (by rw [mins_y d, List.length_append, e]; simp) (1024 - (q + 1))).1
            rw [show q + 1 + (1024 - (q + 1)) = 1024 by omega, mins_y d, ← e, List.getElem?_concat_length, e] at g
            unfold ith
            rw [g]
          · rw [if_neg (fun z => e ((nI_eq (by omega) (by omega)).mp z))]
            rw [mins_y d, List.length_append] at next
            exact next (by simp; omega)
        · rw [mins_n d] at next
          rw [if_neg d, if_pos rfl]; exact next hle
      · have d : ¬ mnB stp kin bits q = true := fun d => c ((win_sub hlt hk).mpr (mnB_iff.mp d).1)
        rw [mins_n d] at next
        rw [if_neg c, if_pos rfl]; exact next hle
    · have e : q = 1024 := by omega
      subst e
      rw [if_pos (show (1024 : Int32) ≤ nI 1024 from nI_le (a := 1024) (Nat.le_refl _) (by omega))]
      unfold ith
      rw [List.getElem?_eq_none hle]
/-! the class's side -/
theorem coversOne_2 {cv : Nat → Int32} {q : Nat} (hq : q < 1024) : ∀ (fuel i : Nat), 10 - i < fuel → i ≤ 10 → (∀ m, m < i → q.testBit m = true → ¬ tb cv (q ^^^ 2 ^ m) = true) →
    ∃ v, F_X1_coversOne_2 (nI q) cv fuel (nI i) = some v ∧ (v = 0 ∨ v = 1) ∧ (v = 1 ↔ ∃ m, m < 10 ∧ q.testBit m = true ∧ tb cv (q ^^^ 2 ^ m) = true) := by
  intro fuel
  induction fuel with
  | zero => intro i h; omega
  | succ n ih =>
    intro i h hi hinv
    rw [F_X1_coversOne_2]
    rcases Nat.lt_or_ge i 10 with hlt | hge
    · rw [if_neg (show ¬ (10 : Int32) ≤ nI i from nI_ge (b := 10) hlt (by omega)), has_s _ (show i < 32 by omega), Option.bind_some, nI_1, xor_one hlt, at_s (xor_lt hq hlt), Option.bind_some, bt_nI (by omega)]
      have go : (q.testBit i = true → ¬ tb cv (q ^^^ 2 ^ i) = true) → ∀ m, m < i + 1 → q.testBit m = true → ¬ tb cv (q ^^^ 2 ^ m) = true := by
        intro hs m hm
        by_cases e : m = i
        · subst e; exact hs
        · exact hinv m (by omega)
      by_cases c1 : q.testBit i = true
      · rw [if_pos c1, if_neg one_ne]
        by_cases c2 : tb cv (q ^^^ 2 ^ i) = true
        · rw [if_pos c2, if_neg one_ne]
          exact ⟨1, rfl, Or.inr rfl, fun _ => ⟨i, hlt, c1, c2⟩, fun _ => rfl⟩
        · rw [if_neg c2, if_pos rfl]
          exact ih (i + 1) (by omega) (by omega) (go (fun _ => c2))
      · rw [if_neg c1, if_pos rfl]
        exact ih (i + 1) (by omega) (by omega) (go (fun z => absurd z c1))
    · have e : i = 10 := by omega
      subst e
      rw [if_pos (show (10 : Int32) ≤ nI 10 from nI_le (a := 10) (Nat.le_refl _) (by omega))]
      exact ⟨0, rfl, Or.inl rfl, fun e => absurd e.symm one_ne, fun ⟨m, h1, h2, h3⟩ => absurd h3 (hinv m h1 h2)⟩
/-- the sets that cover one that does, among the first q -/
def CVr (stp : Bool) (kin : Nat) (bits cv : Nat → Int32) (q : Nat) : Prop := ∀ j, j < 1024 → (tb cv j = true ↔ j < q ∧ j &&& kin = j ∧ ∃ p, p &&& j = p ∧ dz stp kin bits p = true)
theorem xor_sub {q m : Nat} (h : q.testBit m = true) : (q ^^^ 2 ^ m) &&& q = q ^^^ 2 ^ m ∧ q ^^^ 2 ^ m < q := by
  have h1 : (q ^^^ 2 ^ m) &&& q = q ^^^ 2 ^ m := by
    rw [sub_bit]
    intro i hi
    rw [Nat.testBit_xor, Nat.testBit_two_pow] at hi
    by_cases e : m = i
    · rw [← e]; exact h
    · rw [decide_eq_false e, Bool.xor_false] at hi; exact hi
  refine ⟨h1, ?_⟩
  have := sub_le h1
  rcases Nat.lt_or_ge (q ^^^ 2 ^ m) q with c | c
  · exact c
  · have e : q ^^^ 2 ^ m = q := by omega
    have h2 : (q ^^^ 2 ^ m).testBit m = q.testBit m := by rw [e]
    rw [Nat.testBit_xor, Nat.testBit_two_pow, h] at h2
    simp at h2
theorem sub_miss {p q : Nat} (h : p &&& q = p) (hlt : p < q) : ∃ m, q.testBit m = true ∧ p.testBit m = false := by
  refine Classical.byContradiction (fun hc => ?_)
  have e : q &&& p = q := sub_bit.mpr (fun i hi => by
    cases hp : p.testBit i
    · exact absurd ⟨i, hi, hp⟩ hc
    · rfl)
  have := sub_le e
  omega
theorem bit_lt {q m : Nat} (hq : q < 1024) (h : q.testBit m = true) : m < 10 := by
  rcases Nat.lt_or_ge m 10 with c | c
  · exact c
  · rw [Nat.testBit_lt_two_pow (Nat.lt_of_lt_of_le (show q < 2 ^ 10 from hq) (Nat.pow_le_pow_right (by omega) c))] at h
    cases h
theorem covers_s {cv : Nat → Int32} {q : Nat} (hq : q < 1024) (hw : q &&& kin = q) (hC : CVr stp kin bits cv q) :
    ∃ v, F_X1_coversOne (nI q) cv = some v ∧ (v = 0 ∨ v = 1) ∧ (v = 1 ↔ ∃ p, p &&& q = p ∧ p < q ∧ dz stp kin bits p = true) := by
  unfold F_X1_coversOne
  obtain ⟨v, h1, h2, h3⟩ := coversOne_2 (cv := cv) hq FU 0 (by unfold FU; omega) (by omega) (fun m hm => by omega)
  rw [nI_0] at h1
  refine ⟨v, h1, h2, ?_⟩
  rw [h3]
  constructor
  · rintro ⟨m, hm, hb, ht⟩
    obtain ⟨x1, x2⟩ := xor_sub hb
    obtain ⟨-, -, p, hp1, hp2⟩ := (hC _ (by omega)).mp ht
    have := sub_le hp1
    exact ⟨p, sub_trans hp1 x1, by omega, hp2⟩
  · rintro ⟨p, hp1, hp2, hp3⟩
    obtain ⟨m, hm1, hm2⟩ := sub_miss hp1 hp2
    obtain ⟨x1, x2⟩ := xor_sub hm1
    refine ⟨m, bit_lt hq hm1, hm1, (hC _ (by omega)).mpr ⟨x2, sub_trans x1 hw, p, ?_, hp3⟩⟩
    rw [sub_bit]
    intro i hi
    rw [Nat.testBit_xor, Nat.testBit_two_pow]
    have hqi := sub_bit.mp hp1 i hi
    by_cases e : m = i
    · rw [← e, hm2] at hi; cases hi
    · rw [decide_eq_false e, hqi]; rfl
/-- the row 'found' -/
def FDr (stp : Bool) (kin : Nat) (bits fo : Nat → Int32) (q : Nat) : Prop := ∀ i x, (mins stp kin bits q)[i]? = some x → fo i = nI x
theorem weigh_47 {x1 x2 x3 cnt : Int32} {cv fo : Nat → Int32} : F_X1_weigh_47 x1 x2 x3 cnt cv fo = if x2 = 0 ∧ x3 = 0 then some (cnt, cv, fo) else (F_X9_mark x1 cv).bind (fun r => some (cnt, r, fo)) := by
  unfold F_X1_weigh_47
  by_cases c1 : x2 = 0
  · by_cases c2 : x3 = 0
    · rw [if_pos c1, if_pos c2, if_pos ⟨c1, c2⟩]
    · rw [if_pos c1, if_neg c2, if_neg (fun h => c2 h.2)]
  · rw [if_neg c1, if_neg (fun h => c1 h.1)]
theorem weigh_s {cv fo : Nat → Int32} {q : Nat} (hk : kin < 1024) (hq : q < 1024) (hw : q &&& kin = q) (hC : CVr stp kin bits cv q) (hF : FDr stp kin bits fo q) :
    ∃ cv' fo', F_X1_weigh (nI q) (if dz stp kin bits q = true then 1 else 0) (nI (mins stp kin bits q).length) cv fo = some (nI (mins stp kin bits (q + 1)).length, cv', fo') ∧ CVr stp kin bits cv' (q + 1) ∧ FDr stp kin bits fo' (q + 1) := by
  obtain ⟨v, h1, h2, h3⟩ := covers_s hq hw hC
  obtain ⟨b', m1, m2⟩ := mark_s (bits := cv) hq
  unfold F_X1_weigh
  rw [h1, Option.bind_some]
  simp only [weigh_47]
  have hCy : (∃ p, p &&& q = p ∧ dz stp kin bits p = true) → CVr stp kin bits b' (q + 1) := by
    intro hp j hj
    rw [m2 j, Bool.or_eq_true, decide_eq_true_iff, hC j hj]
    constructor
    · rintro (⟨a, b⟩ | e)
      · exact ⟨by omega, b⟩
      · subst e; exact ⟨by omega, hw, hp⟩
    · rintro ⟨a, b⟩
      by_cases e : j = q
      · exact Or.inr e
      · exact Or.inl ⟨by omega, b⟩
  have hCn : (¬ ∃ p, p &&& q = p ∧ dz stp kin bits p = true) → CVr stp kin bits cv (q + 1) := by
    intro hp j hj
    rw [hC j hj]
    constructor
    · rintro ⟨a, b⟩; exact ⟨by omega, b⟩
    · rintro ⟨a, b1, b2⟩
      by_cases e : j = q
      · subst e; exact absurd b2 hp
      · exact ⟨by omega, b1, b2⟩
  have hFn : ¬ mnB stp kin bits q = true → FDr stp kin bits fo (q + 1) := by
    intro d i x hx
    rw [mins_n d] at hx
    exact hF i x hx
  by_cases c1 : dz stp kin bits q = true
  · have hex : ∃ p, p &&& q = p ∧ dz stp kin bits p = true := ⟨q, Nat.and_self q, c1⟩
    rw [if_pos c1, if_neg one_ne]
    by_cases c2 : v = 0
    · have hmn : mnB stp kin bits q = true := mnB_iff.mpr ⟨hw, c1, fun p a b => by
        cases hd : dz stp kin bits p
        · rfl
        · have := h3.mpr ⟨p, a, b, hd⟩
          rw [c2] at this; exact absurd this.symm one_ne⟩
      have hl := mins_len (stp := stp) (kin := kin) (bits := bits) (n := q + 1) (by omega)
      rw [mins_y hmn, List.length_append] at hl
      simp only [List.length_cons, List.length_nil] at hl
      rw [if_pos c2, show (252 : Int32) = nI 252 from rfl, inside_n (by omega) (by omega), if_pos (show (mins stp kin bits q).length < 252 by omega), Option.bind_some, if_neg one_ne, gin_n (by omega) (by omega), if_neg (fun z => one_ne z.1), m1, Option.bind_some, nI_1, nI_clamp (by omega)]
      refine ⟨b', _, by rw [mins_y hmn, List.length_append]; rfl, hCy hex, ?_⟩
      intro i x hx
      rw [mins_y hmn] at hx
      by_cases e : i = (mins stp kin bits q).length
      · subst e
        rw [List.getElem?_concat_length] at hx
        cases hx
        rw [upd_self]
      · rw [upd_ne _ _ e]
        have hlt : i < (mins stp kin bits q).length := by
          have := (List.getElem?_eq_some_iff.mp hx).1
          rw [List.length_append] at this
          simp only [List.length_cons, List.length_nil] at this
          omega
        rw [List.getElem?_append_left hlt] at hx
        exact hF i x hx
    · have hmn : ¬ mnB stp kin bits q = true := fun d => by
        obtain ⟨p, a, b, c⟩ := h3.mp (h2.resolve_left c2)
        have := (mnB_iff.mp d).2.2 p a b
        rw [c] at this; cases this
      rw [if_neg c2, if_neg (fun z => one_ne z.1), m1, Option.bind_some]
      exact ⟨b', fo, by rw [mins_n hmn], hCy hex, hFn hmn⟩
  · have hmn : ¬ mnB stp kin bits q = true := fun d => c1 (mnB_iff.mp d).2.1
    rw [if_neg c1, if_pos rfl]
    by_cases c2 : v = 0
    · rw [if_pos ⟨rfl, c2⟩]
      refine ⟨cv, fo, by rw [mins_n hmn], hCn ?_, hFn hmn⟩
      rintro ⟨p, a, b⟩
      have hle := sub_le a
      rcases Nat.lt_or_ge p q with z | z
      · have := h3.mpr ⟨p, a, z, b⟩
        rw [c2] at this; exact absurd this.symm one_ne
      · have e : p = q := by omega
        subst e; exact c1 b
    · obtain ⟨p, a, -, c⟩ := h3.mp (h2.resolve_left c2)
      rw [if_neg (fun z => c2 z.2), m1, Option.bind_some]
      exact ⟨b', fo, by rw [mins_n hmn], hCy ⟨p, a, c⟩, hFn hmn⟩
theorem seek_18 (hk : kin < 1024) (ci ts : Int32) : ∀ (fuel q : Nat) (cv fo : Nat → Int32), 1025 - q < fuel → q ≤ kin + 1 → CVr stp kin bits cv q → FDr stp kin bits fo q →
    ∃ cv' fo', F_X1_seek_18 (if stp = true then 1 else 0) (nI kin) bits fuel (nI q) (nI (mins stp kin bits q).length) ci ts cv fo = some (nI (mins stp kin bits 1024).length, ci, ts, cv', fo') ∧ FDr stp kin bits fo' 1024 := by
  intro fuel
  induction fuel with
  | zero => intro q cv fo h; omega
  | succ n ih =>
    intro q cv fo h hq hC hF
    rw [F_X1_seek_18]
    rcases Nat.lt_or_ge kin q with hlt | hge
    · have e : q = kin + 1 := by omega
      have hc := mins_cut (stp := stp) (bits := bits) hk (1024 - (kin + 1))
      rw [show kin + 1 + (1024 - (kin + 1)) = 1024 by omega] at hc
      subst e
      rw [if_pos (nI_lt hlt (by omega)), hc]
      exact ⟨cv, fo, rfl, fun i x hx => hF i x (by rw [← hc]; exact hx)⟩
    · have hq1 : q < 1024 := by omega
      rw [if_neg (nI_nlt hge (by omega)), isWithin_s, Option.bind_some, nI_1, less_nI hk, at_s hq1, at_s (and_lt' hk), Option.bind_some, Option.bind_some]
      by_cases c : (nI q &&& (nI kin ^^^ (-1))) = 0
      · have hw := (win_sub hq1 hk).mp c
        obtain ⟨cv', fo', w1, w2, w3⟩ := weigh_s hk hq1 hw hC hF
        have hd : ∀ s0, s0 = (if dz stp kin bits q = true then (1 : Int32) else 0) → ∃ cv' fo', F_X1_seek_69 (if stp = true then 1 else 0) (nI kin) bits (F_X1_seek_18 (if stp = true then 1 else 0) (nI kin) bits n) (nI q) s0 (nI (mins stp kin bits q).length) ci ts cv fo = some (nI (mins stp kin bits 1024).length, ci, ts, cv', fo') ∧ FDr stp kin bits fo' 1024 := by
          intro s0 es
          unfold F_X1_seek_69
          rw [es, w1, Option.bind_some, nI_1]
          exact ih (q + 1) cv' fo' (by omega) (by omega) w2 w3
        rw [if_pos c, if_neg one_ne]
        cases stp
        · rw [if_pos (show (if false = true then (1 : Int32) else 0) = 0 by decide)]
          exact hd _ rfl
        · rw [if_neg (show ¬ (if true = true then (1 : Int32) else 0) = 0 by decide)]
          by_cases d : tb bits (kin &&& (1023 ^^^ q)) = true
          · rw [if_pos d, if_neg one_ne]
            refine hd _ ?_
            unfold dz
            rw [if_pos (show true = true from rfl), d]; rfl
          · have d' : tb bits (kin &&& (1023 ^^^ q)) = false := by simpa using d
            rw [if_neg d, if_pos rfl]
            refine hd _ ?_
            unfold dz
            rw [if_pos (show true = true from rfl), d']; rfl
      · have hw : ¬ q &&& kin = q := fun z => c ((win_sub hq1 hk).mpr z)
        have hmn : ¬ mnB stp kin bits q = true := fun d => hw (mnB_iff.mp d).1
        have next := ih (q + 1) cv fo (by omega) (by omega) (fun j hj => by
          rw [hC j hj]
          constructor
          · rintro ⟨a, b⟩; exact ⟨by omega, b⟩
          · rintro ⟨a, b1, b2⟩
            by_cases e : j = q
            · subst e; exact absurd b1 hw
            · exact ⟨by omega, b1, b2⟩) (fun i x hx => by
          rw [mins_n hmn] at hx
          exact hF i x hx)
        rw [mins_n hmn] at next
        rw [if_neg c, if_pos rfl]
        exact next
theorem seek_s (hk : kin < 1024) (cnt ci ts : Int32) (cv fo : Nat → Int32) :
    ∃ ci' ts' cv' fo', F_X1_seek (if stp = true then 1 else 0) (nI kin) bits cnt ci ts cv fo = some (nI (mins stp kin bits 1024).length, ci', ts', cv', fo') ∧ FDr stp kin bits fo' 1024 := by
  unfold F_X1_seek F_X9_clear
  rw [fill_ok 0 cv (by omega), Option.bind_some, Option.bind_some]
  obtain ⟨cv', fo', h1, h2⟩ := seek_18 (stp := stp) (bits := bits) hk (nI kin) 0 FU 0 (fill_row 0 32 cv) fo (by unfold FU; omega) (by omega) (fun j hj => by
    rw [tb_0 _ hj]
    constructor
    · intro q; cases q
    · rintro ⟨q, -⟩; omega) (fun i x hx => by
    have : mins stp kin bits 0 = [] := rfl
    rw [this] at hx; simp at hx)
  rw [nI_0, show (mins stp kin bits 0).length = 0 from rfl, nI_0] at h1
  exact ⟨_, _, cv', fo', h1, h2⟩
theorem at1_s {fo : Nat → Int32} (hF : FDr stp kin bits fo 1024) (z : Int32) : F_X1_at z (nI (mins stp kin bits 1024).length) fo = some (if 0 ≤ z then ith stp kin bits z.toNatClampNeg else -1) := by
  have hl := mins_len (stp := stp) (kin := kin) (bits := bits) (n := 1024) (Nat.le_refl _)
  unfold F_X1_at
  rw [inside_s]
  simp only [Option.bind_some]
  by_cases h0 : 0 ≤ z
  · obtain ⟨i, hi, e⟩ := nI_of (Int32.not_lt.mpr h0)
    subst e
    rw [if_pos h0, nI_clamp hi]
    by_cases c : i < (mins stp kin bits 1024).length
    · rw [if_pos (⟨h0, nI_lt c (by omega)⟩ : 0 ≤ nI i ∧ nI i < nI (mins stp kin bits 1024).length), if_neg one_ne, if_neg (show ¬ (252 : Int32) ≤ nI i from nI_ge (b := 252) (by omega) (by omega)), gin_n (by omega) (by omega)]
      have g := List.getElem?_eq_getElem c
      rw [hF i _ g]
      unfold ith
      rw [g]
    · rw [if_neg (show ¬ (0 ≤ nI i ∧ nI i < nI (mins stp kin bits 1024).length) from fun q => c ((nI_ltI hi (by omega)).mp q.2)), if_pos rfl]
      unfold ith
      rw [List.getElem?_eq_none (by omega)]
  · rw [if_neg h0, if_neg (show ¬ (0 ≤ z ∧ z < nI (mins stp kin bits 1024).length) from fun q => h0 q.1), if_pos rfl]
end MN
