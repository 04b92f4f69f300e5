/-! trade: both sides -/
section TB
variable {kin : Nat} {bits ca th lo : Nat → Int32} {arg cm op blo day mem tld wei rb st rw0 : Nat → Int32} {M' NN' vd vk ma told we : Int32}
/-- what the reference answers of a, b and the c that it has -/
def tans (a b c j : Nat) : Int32 := if j = 0 then nI a else if j = 1 then nI b else if j = 2 then nI c else nI (oth a b c)
theorem trade_101 {a b c j : Nat} (hj : j ≤ 3) (ha : a < 1024) (hb : b < 1024) (hth : ∀ j, j < 1024 → th j = nI (thr j 10)) (hlo : lo (thr a 10 + thr b 10) = nI c) :
    F_X12_trade_101 (nI j) M' NN' vd vk arg cm op blo day mem tld wei (nI a) (nI b) (nI kin) ma told we rb ca lo st th rw0 = some (tans a b c j, nI kin, ma, told, we, rb, ca, lo, st, th, rw0) := by
  have g1 := thr_10 a
  have g2 := thr_10 b
  unfold F_X12_trade_101 tans
  rw [gin_n ha (by omega), gin_n hb (by omega), nI_clamp (show a < 2 ^ 31 by omega), nI_clamp (show b < 2 ^ 31 by omega), hth a ha, hth b hb, nI_add, gin_n (show thr a 10 + thr b 10 < 59049 by omega) (by omega), nI_clamp (show thr a 10 + thr b 10 < 2 ^ 31 by omega), hlo]
  rcases (show j = 0 ∨ j = 1 ∨ j = 2 ∨ j = 3 by omega) with e | e | e | e <;> subst e
  · rfl
  · rfl
  · rfl
  · rw [if_neg (show ¬ nI 3 = 0 by decide), if_neg (show ¬ nI 3 = 1 by decide), if_neg (show ¬ nI 3 = 2 by decide), if_neg (by decide), if_neg (by decide), if_neg (by decide), nx_and, or_nI, less_nI (or10 ha hb), or_nI]
    rfl
theorem trade_48 {a j : Nat} (hk : kin < 1024) (ha : a < 1024) (hj : j ≤ 3) (hca : ∀ z, z < 1024 → ca z = if tb bits z = true then 1 else 0) (hth : ∀ j, j < 1024 → th j = nI (thr j 10)) (hL : LoS kin bits lo 1024)
    (rec36 : Int32 → Int32 → Int32 → Int32 → Int32 → (Nat → Int32) → (Nat → Int32) → (Nat → Int32) → (Nat → Int32) → (Nat → Int32) → (Nat → Int32) → Option (Int32 × Int32 × Int32 × Int32 × Int32 × (Nat → Int32) × (Nat → Int32) × (Nat → Int32) × (Nat → Int32) × (Nat → Int32) × (Nat → Int32))) :
    ∀ (fuel b : Nat), 1024 - b < fuel → b ≤ 1024 → a < b → (∀ b', a < b' → b' < b → tb bits a = true → tb bits b' = true → ∀ c, ¬ LosP kin bits c (thr a 10 + thr b' 10)) →
      (F_X12_trade_48 (nI j) M' NN' vd vk arg cm op blo day mem tld wei rec36 fuel (nI a) (nI b) (nI kin) ma told we rb ca lo st th rw0 = rec36 (nI (a + 1)) (nI kin) ma told we rb ca lo st th rw0 ∧ (∀ b', a < b' → b' < 1024 → tb bits a = true → tb bits b' = true → ∀ c, ¬ LosP kin bits c (thr a 10 + thr b' 10))) ∨
      (∃ b2 c, a < b2 ∧ b2 < 1024 ∧ tb bits a = true ∧ tb bits b2 = true ∧ LosP kin bits c (thr a 10 + thr b2 10) ∧ (∀ c', c' < c → ¬ LosP kin bits c' (thr a 10 + thr b2 10)) ∧ (∀ b', a < b' → b' < b2 → tb bits a = true → tb bits b' = true → ∀ c, ¬ LosP kin bits c (thr a 10 + thr b' 10)) ∧
        F_X12_trade_48 (nI j) M' NN' vd vk arg cm op blo day mem tld wei rec36 fuel (nI a) (nI b) (nI kin) ma told we rb ca lo st th rw0 = some (tans a b2 c j, nI kin, ma, told, we, rb, ca, lo, st, th, rw0)) := by
  intro fuel
  induction fuel with
  | zero => intro b h; omega
  | succ n ih =>
    intro b h hb hab hS
    rw [F_X12_trade_48]
    rcases Nat.lt_or_ge b 1024 with hlt | hge
    · have g1 := thr_10 a
      have g2 := thr_10 b
      have hk0 : thr a 10 + thr b 10 < 59049 := by omega
      rw [if_neg (show ¬ (1024 : Int32) ≤ nI b from nI_ge (b := 1024) hlt (by omega)), nI_1, nI_1]
      simp only [gin_n hlt (show 1024 < 2 ^ 31 by omega), gin_n ha (show 1024 < 2 ^ 31 by omega), nI_clamp (show b < 2 ^ 31 by omega), nI_clamp (show a < 2 ^ 31 by omega), hth a ha, hth b hlt, nI_add, gin_n hk0 (show 59049 < 2 ^ 31 by omega), nI_clamp (show thr a 10 + thr b 10 < 2 ^ 31 by omega), hca a ha, hca b hlt]
      by_cases c1 : tb bits a = true
      · rw [if_pos c1, if_neg one_ne]
        have go : (tb bits b = true → ∀ c, ¬ LosP kin bits c (thr a 10 + thr b 10)) → ∀ b', a < b' → b' < b + 1 → tb bits a = true → tb bits b' = true → ∀ c, ¬ LosP kin bits c (thr a 10 + thr b' 10) := by
          intro hs b' x1 x2 x3 x4
          by_cases q : b' = b
          · subst q; exact hs x4
          · exact hS b' x1 (by omega) x3 x4
        by_cases c2 : tb bits b = true
        · rw [if_pos c2, if_neg one_ne]
          rcases hL _ hk0 with ⟨e, hno⟩ | ⟨c, y1, y2, y3, y4⟩
          · rw [if_pos e]
            exact ih (b + 1) (by omega) (by omega) (by omega) (go (fun _ c hc => hno c (Nat.lt_of_le_of_lt (sub_le hc.1.1) hk) hc))
          · right
            refine ⟨b, c, hab, hlt, c1, c2, y3, y4, hS, ?_⟩
            rw [if_neg (by rw [y2]; exact neg1_ne (by omega)), trade_101 hj ha hlt hth y2]
        · rw [if_neg c2, if_pos rfl]
          exact ih (b + 1) (by omega) (by omega) (by omega) (go (fun z => absurd z c2))
      · rw [if_neg c1, if_pos rfl]
        exact Or.inl ⟨rfl, fun b' _ _ z => absurd z c1⟩
    · have e : b = 1024 := by omega
      subst e
      rw [if_pos (show (1024 : Int32) ≤ nI 1024 from nI_le (a := 1024) (Nat.le_refl _) (by omega)), nI_1]
      exact Or.inl ⟨rfl, hS⟩
theorem trade_36 {j : Nat} (hk : kin < 1024) (hj : j ≤ 3) (hca : ∀ z, z < 1024 → ca z = if tb bits z = true then 1 else 0) (hth : ∀ j, j < 1024 → th j = nI (thr j 10)) (hL : LoS kin bits lo 1024) :
    ∀ (fuel a : Nat), 1024 - a < fuel → a ≤ 1024 → (∀ a' b', a' < a → a' < b' → b' < 1024 → tb bits a' = true → tb bits b' = true → ∀ c, ¬ LosP kin bits c (thr a' 10 + thr b' 10)) →
      ∃ t, TrOut kin bits t ∧ F_X12_trade_36 (nI j) M' NN' vd vk arg cm op blo day mem tld wei fuel (nI a) (nI kin) ma told we rb ca lo st th rw0 = some (t j, nI kin, ma, told, we, rb, ca, lo, st, th, rw0) := by
  intro fuel
  induction fuel with
  | zero => intro a h; omega
  | succ n ih =>
    intro a h ha hS
    rw [F_X12_trade_36]
    rcases Nat.lt_or_ge a 1024 with hlt | hge
    · rw [if_neg (show ¬ (1024 : Int32) ≤ nI a from nI_ge (b := 1024) hlt (by omega)), nI_1]
      rcases trade_48 (M' := M') (NN' := NN') (vd := vd) (vk := vk) (ma := ma) (told := told) (we := we) (arg := arg) (cm := cm) (op := op) (blo := blo) (day := day) (mem := mem) (tld := tld) (wei := wei) (rb := rb) (st := st) (rw0 := rw0) hk hlt hj hca hth hL (F_X12_trade_36 (nI j) M' NN' vd vk arg cm op blo day mem tld wei n) FU (a + 1) (by unfold FU; omega) (by omega) (by omega) (fun b' x1 x2 => by omega) with ⟨e, hno⟩ | ⟨b2, c, y1, y2, y3, y4, y5, y6, y7, e⟩
      · rw [e]
        exact ih (a + 1) (by omega) (by omega) (fun a' b' x1 x2 x3 x4 x5 => by
          by_cases q : a' = a
          · subst q; exact hno b' x2 x3 x4 x5
          · exact hS a' b' (by omega) x2 x3 x4 x5)
      · rw [e]
        refine ⟨fun i => tans a b2 c i, Or.inr ⟨a, b2, c, y1, y2, y3, y4, y5, y6, fun a' b' x1 x2 x3 x4 x5 => ?_, rfl, rfl, rfl, rfl⟩, rfl⟩
        rcases x5 with q | ⟨q1, q2⟩
        · exact hS a' b' q x1 x2 x3 x4
        · subst q1; exact y7 b' x1 q2 x3 x4
    · have e : a = 1024 := by omega
      subst e
      rw [if_pos (show (1024 : Int32) ≤ nI 1024 from nI_le (a := 1024) (Nat.le_refl _) (by omega))]
      exact ⟨fun _ => -1, Or.inl ⟨fun a b x1 x2 x3 x4 => hS a b (by omega) x1 x2 x3 x4, rfl, rfl, rfl, rfl⟩, rfl⟩
end TB
/-- the trade that is kept is that of the table, if it was sought -/
def TrdOk (sin fr ts : Int32) (bits tr : Nat → Int32) : Prop := ¬ fr = 0 → ¬ ts = 0 → ∃ kin, kin < 1024 ∧ sin = nI kin ∧ TrOut kin bits tr
section TB2
variable {mem day tld blo wei : Nat → Int32} {d k : Int32} {N M : Nat}
theorem trade_both (hM : M ≤ 10) (hn : N ≤ 200) (hmem : ∀ i, i < N → ∃ mi, mi < M ∧ mem i = nI mi) {sin sal : Int32} {mo sw : Nat → Int32} (S : Seated mem day tld blo wei d k N sin sal mo sw) {L : List (Nat × Nat)} {codes fr ti ts : Int32} {code bits cm op arg tr : Nat → Int32} {x y : Int32} (R : ∀ r, r < 4 → x = nI r → RuleIs L codes code r cm op arg) (hT : TabOk sin sal mo sw L fr ti bits) (hTr : TrdOk sin fr ts bits tr) (al ma we told tcc tcn : Int32) (row ca st rb rw0 lo th tfi tse tsu : Nat → Int32) :
    ∃ a row' fr' ti' ts' bits' tr' o1, F_X11_trade x y codes code row fr ti ts bits tr sal sin mo sw tcc tcn tfi tse tsu = some (a, row', fr', ti', ts', bits', tr', o1) ∧ (∃ o2, F_X12_trade x y al ma (nI M) (nI N) told d k we arg rb ca cm lo op blo day mem tld wei st th rw0 = some (a, o2)) ∧ TabOk sin sal mo sw L fr' ti' bits' ∧ TrdOk sin fr' ts' bits' tr' := by
  have hsin : ∀ i, 10 ≤ i → i < 32 → bt sin i = false := by rw [S.1]; exact sAll_hi (Nat.le_refl _)
  obtain ⟨kin, hk, ek⟩ := small10 hsin
  unfold F_X11_trade F_X12_trade
  rw [isRule_s]
  by_cases hx : 0 ≤ x ∧ x < 4
  · obtain ⟨r, hr31, er⟩ := nI_of (Int32.not_lt.mpr hx.1)
    subst er
    have hr : r < 4 := (nI_ltI (b := 4) hr31 (by omega)).mp hx.2
    have hR := R r hr rfl
    obtain ⟨row', ts', bits', h1, h2, h3⟩ := tableOf_in hr hR hsin fr ti ts row bits hT
    have hOk : TabOk sin sal mo sw L 1 sin bits' := fun _ => ⟨rfl, rfl, h2⟩
    have hTr' : ¬ ts' = 0 → TrOut kin bits' tr := by
      intro hts
      rcases h3 with q | ⟨q1, q2, q3⟩
      · exact absurd q hts
      · obtain ⟨k2, hk2, e2, ht⟩ := hTr (by rw [q3]; exact one_ne) (by rw [← q1]; exact hts)
        have : k2 = kin := by
          rw [ek] at e2
          exact ((nI_eq (by omega) (by omega)).mp e2).symm
        subst this
        rw [q2]; exact ht
    rw [h1, inside_s (nI r), inside_in (a := 3) (by decide) y, isIn_s]
    simp only [Option.bind_some, if_pos hx, if_neg one_ne]
    by_cases hy : 0 ≤ y ∧ y ≤ 3
    · obtain ⟨j, hj, ej⟩ := nI_of2 (x := y) (M := 3) (n := 3) (by decide) (Int32.not_lt.mpr hy.1) hy.2
      subst ej
      obtain ⟨ca', st', g1, g2⟩ := findCarry_s hM hn hmem S hr hR al ma we ca st rb rw0
      have hca : ∀ q, q < 1024 → ca' q = if tb bits' q = true then 1 else 0 := fun q hq => table_row h2 g2 hq
      have hTk : ∀ j, j < 1024 → tb bits' j = true → j &&& kin = j := fun j hj c => by
        have := ((h2 j hj).mp c).2.1
        rw [ek] at this
        exact (win_sub hj hk).mp this
      obtain ⟨lo', th', l1, l2, l3⟩ := losing_s (kin := kin) (bits := bits') hk hca lo th
      have p36 := trade_36 (bits := bits') (lo := lo') (th := th') (ca := ca') (arg := arg) (cm := cm) (op := op) (blo := blo) (day := day) (mem := mem) (tld := tld) (wei := wei) (rb := (fun j => if j < M then sB mem day tld blo d k N j else rb j)) (st := st') (rw0 := (fun j => if j < M then sW mem day tld blo wei d k N j else rw0 j)) (M' := nI M) (NN' := nI N) (vd := d) (vk := k) (ma := sMany mem day tld blo d k N M) (told := 0) (we := sSum mem day tld blo wei d k N M) hk hj hca l2 l3 FU 0 (by unfold FU; omega) (by omega) (fun a' b' z => by omega)
      obtain ⟨t, ht, p36⟩ := p36
      rw [nI_0] at p36
      simp only [if_pos hy, if_neg one_ne]
      rw [g1, Option.bind_some]
      dsimp only
      rw [ek, l1, Option.bind_some]
      dsimp only
      rw [p36]
      have hOk' : TabOk (nI kin) sal mo sw L 1 (nI kin) bits' := ek ▸ hOk
      by_cases c : ts' = 0
      · obtain ⟨tr', cc', cn', fi', se', su', s1, s2⟩ := seek10_s (kin := kin) (bits := bits') hk hTk ts' tcc tcn tr tfi tse tsu
        rw [if_pos c, s1, Option.bind_some]
        dsimp only
        rw [gin_n (show j < 4 by omega) (by omega), nI_clamp (by omega), TrOut.uniq s2 ht j (by omega)]
        exact ⟨_, _, _, _, _, _, _, _, rfl, ⟨_, rfl⟩, hOk', fun _ _ => ⟨kin, hk, rfl, s2⟩⟩
      · rw [if_neg c, gin_n (show j < 4 by omega) (by omega), nI_clamp (by omega), TrOut.uniq (hTr' c) ht j (by omega)]
        exact ⟨_, _, _, _, _, _, _, _, rfl, ⟨_, rfl⟩, hOk', fun _ _ => ⟨kin, hk, rfl, hTr' c⟩⟩
    · simp only [if_neg hy, if_true]
      exact ⟨_, _, _, _, _, _, _, _, rfl, ⟨_, rfl⟩, hOk, fun _ z => ⟨kin, hk, ek, hTr' z⟩⟩
  · rw [tableOf_out hx, inside_s x, if_neg hx]
    simp only [Option.bind_some, if_true]
    exact ⟨_, _, _, _, _, _, _, _, rfl, ⟨_, rfl⟩, hT, hTr⟩
end TB2
