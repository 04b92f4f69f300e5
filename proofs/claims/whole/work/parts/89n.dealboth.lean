/-! deal: both sides -/
section DL
variable {va : Nat → Int32}
variable {mm NN' vd vk al ma told we : Int32} {blo day mem tld wei : Nat → Int32} {rb bw ch wr : Nat → Int32}
theorem deal_131 {x1 x2 x4 x5 x6 : Int32} {cho ge ha tk : Nat → Int32} : ∀ (fuel p : Nat) (go : Nat → Int32), 8 - p < fuel → p ≤ 8 → (∀ j, j < p → go j = -1) → ∃ go', F_X12_deal_131 x1 x2 x4 x5 mm NN' vd vk blo day mem tld wei va fuel x6 (nI p) al ma told we rb bw ch cho ge go ha tk wr = F_X12_deal_158 x1 x4 x5 mm NN' vd vk blo day mem tld wei va FU x6 x2 0 al ma told we rb bw ch cho ge go' ha tk wr ∧ ∀ j, j < 8 → go' j = -1 := by
  intro fuel
  induction fuel with
  | zero => intro p go h; omega
  | succ n ih =>
    intro p go h hp hS
    rw [F_X12_deal_131]
    rcases Nat.lt_or_ge p 8 with hlt | hge
    · rw [if_neg (show ¬ (8 : Int32) ≤ nI p from nI_ge (b := 8) hlt (by omega)), gin_n hlt (by omega), nI_clamp (by omega), nI_1]
      exact ih (p + 1) _ (by omega) (by omega) (fun j hj => by
        by_cases e : j = p
        · subst e; rw [upd_self]
        · rw [upd_ne _ _ e]; exact hS j (by omega))
    · have e : p = 8 := by omega
      subst e
      rw [if_pos (show (8 : Int32) ≤ nI 8 by decide)]
      exact ⟨go, rfl, hS⟩
theorem deal_107 {x1 x2 x4 x5 x6 : Int32} {cho ge go tk : Nat → Int32} : ∀ (fuel b : Nat) (ha : Nat → Int32), 6 - b < fuel → b ≤ 6 → (∀ j, j < b → ha j = 0) → ∃ ha', F_X12_deal_107 x1 x2 x4 x5 mm NN' vd vk blo day mem tld wei va fuel x6 (nI b) al ma told we rb bw ch cho ge go ha tk wr = F_X12_deal_131 x1 x2 x4 x5 mm NN' vd vk blo day mem tld wei va FU x6 0 al ma told we rb bw ch cho ge go ha' tk wr ∧ ∀ j, j < 6 → ha' j = 0 := by
  intro fuel
  induction fuel with
  | zero => intro b ha h; omega
  | succ n ih =>
    intro b ha h hb hS
    rw [F_X12_deal_107]
    rcases Nat.lt_or_ge b 6 with hlt | hge
    · rw [if_neg (show ¬ (6 : Int32) ≤ nI b from nI_ge (b := 6) hlt (by omega)), gin_n hlt (by omega), nI_clamp (by omega), nI_1]
      exact ih (b + 1) _ (by omega) (by omega) (fun j hj => by
        by_cases e : j = b
        · subst e; rw [upd_self]
        · rw [upd_ne _ _ e]; exact hS j (by omega))
    · have e : b = 6 := by omega
      subst e
      rw [if_pos (show (6 : Int32) ≤ nI 6 by decide)]
      exact ⟨ha, rfl, hS⟩
theorem deal_62 {C : Nat} {x2 x4 x5 x6 : Int32} {cho ge go ha tk : Nat → Int32} : ∀ (fuel b : Nat), 6 - b < fuel → b ≤ 6 → (∀ c, c < b → C.testBit c = true → ¬ bw c = 0) →
    ((∀ c, c < 6 → C.testBit c = true → ¬ bw c = 0) ∧ F_X12_deal_62 (nI C) x2 x4 x5 mm NN' vd vk blo day mem tld wei va fuel x6 (nI b) al ma told we rb bw ch cho ge go ha tk wr = (F_X12_findGets x2 x6 cho ge tk va).bind (fun r17 => F_X12_deal_107 (nI C) x2 x4 x5 mm NN' vd vk blo day mem tld wei va FU x6 0 al ma told we rb bw ch cho (r17.1) go ha (r17.2) wr)) ∨
    (¬ (∀ c, c < 6 → C.testBit c = true → ¬ bw c = 0) ∧ ∃ o, F_X12_deal_62 (nI C) x2 x4 x5 mm NN' vd vk blo day mem tld wei va fuel x6 (nI b) al ma told we rb bw ch cho ge go ha tk wr = some (-1, o)) := by
  intro fuel
  induction fuel with
  | zero => intro b h; omega
  | succ n ih =>
    intro b h hb hS
    rw [F_X12_deal_62]
    rcases Nat.lt_or_ge b 6 with hlt | hge
    · rw [if_neg (show ¬ (6 : Int32) ≤ nI b from nI_ge (b := 6) hlt (by omega)), isOf_s _ (show b < 32 by omega), Option.bind_some, gin_n hlt (by omega), nI_clamp (by omega), nI_1, bt_nI (by omega)]
      have go_ : (C.testBit b = true → ¬ bw b = 0) → ∀ c, c < b + 1 → C.testBit c = true → ¬ bw c = 0 := by
        intro hs c hc
        by_cases e : c = b
        · subst e; exact hs
        · exact hS c (by omega)
      by_cases c : C.testBit b = true
      · rw [if_pos c, if_neg one_ne]
        by_cases z : bw b = 0
        · rw [if_pos z]
          exact Or.inr ⟨fun y => y b hlt c z, _, rfl⟩
        · rw [if_neg z]
          exact ih (b + 1) (by omega) (by omega) (go_ (fun _ => z))
      · rw [if_neg c, if_pos rfl]
        exact ih (b + 1) (by omega) (by omega) (go_ (fun y => absurd y c))
    · have e : b = 6 := by omega
      subst e
      rw [if_pos (show (6 : Int32) ≤ nI 6 by decide)]
      exact Or.inl ⟨hS, rfl⟩
theorem handOut_11 {C : Nat} {x2 x3 cnt : Int32} {cho ga ow pk : Nat → Int32} : ∀ (fuel b : Nat) (hd : Nat → Int32), 6 - b < fuel → b ≤ 6 → (∀ j, j < b → hd j = if C.testBit j = true then 0 else -1) → ∃ hd', F_X0_handOut_11 (nI C) x2 x3 cnt cho va fuel (nI b) ga hd ow pk = F_X0_handOut_45 x2 x3 cnt cho va ga hd' ow pk ∧ ∀ j, j < 6 → hd' j = if C.testBit j = true then 0 else -1 := by
  intro fuel
  induction fuel with
  | zero => intro b hd h; omega
  | succ n ih =>
    intro b hd h hb hS
    rw [F_X0_handOut_11]
    rcases Nat.lt_or_ge b 6 with hlt | hge
    · rw [if_neg (show ¬ (6 : Int32) ≤ nI b from nI_ge (b := 6) hlt (by omega)), has_s _ (show b < 32 by omega), Option.bind_some, gin_n hlt (by omega), gin_n hlt (by omega), nI_clamp (by omega), nI_1, bt_nI (by omega)]
      have step : ∀ v, v = (if C.testBit b = true then (0 : Int32) else -1) → ∃ hd', F_X0_handOut_11 (nI C) x2 x3 cnt cho va n (nI (b + 1)) ga (upd hd b v) ow pk = F_X0_handOut_45 x2 x3 cnt cho va ga hd' ow pk ∧ ∀ j, j < 6 → hd' j = if C.testBit j = true then 0 else -1 := by
        intro v hv
        exact ih (b + 1) _ (by omega) (by omega) (fun j hj => by
          by_cases e : j = b
          · subst e; rw [upd_self]; exact hv
          · rw [upd_ne _ _ e]; exact hS j (by omega))
      by_cases c : C.testBit b = true
      · rw [if_pos c, if_neg one_ne]; exact step _ (by rw [if_pos c])
      · rw [if_neg c, if_pos rfl]; exact step _ (by rw [if_neg c])
    · have e : b = 6 := by omega
      subst e
      rw [if_pos (show (6 : Int32) ≤ nI 6 by decide)]
      exact ⟨hd, rfl, hS⟩
end DL
section DB2
variable {mem day tld blo wei : Nat → Int32} {d k : Int32} {N M : Nat}
theorem deal_both (hM : M ≤ 10) (hn : N ≤ 200) (hmem : ∀ i, i < N → ∃ mi, mi < M ∧ mem i = nI mi) (hblo : ∀ i, i < N → blo i = -1 ∨ ∃ b, b < 6 ∧ blo i = nI b) {sin sal : Int32} {mo sw : Nat → Int32} (S : Seated mem day tld blo wei d k N sin sal mo sw) {va ga : Nat → Int32} (hV : Vals va) (hga : ∀ b, b < 6 → ga b = 0) (x1 x2 x3 x4 x5 al ma we told dc : Int32) (dch dcho dhd dow dpk dwt rb rw0 bw ch cho ge go ha tk : Nat → Int32) :
    ∃ a dc' dch' dcho' ga' o1, F_X11_deal x1 x2 x3 x4 x5 dc dch dcho ga dhd dow dpk va dwt mo sw = some (a, dc', dch', dcho', ga', o1) ∧ (∃ o2, F_X12_deal x1 x2 x3 x4 x5 al ma (nI M) (nI N) told d k we rb bw ch cho ge go ha blo day mem tld wei tk va rw0 = some (a, o2)) ∧ ∀ b, b < 6 → ga' b = 0 := by
  unfold F_X11_deal F_X12_deal F_X12_findsView
  rw [inside_in (a := 63) (by decide) x1, inside_in (a := 255) (by decide) x2, inside_in (a := 1) (by decide) x3, isIn_s, isIn_s, isIn_s, isIn_s, finds_s d k hn hM]
  simp only [Option.bind_some]
  by_cases h1 : 1 ≤ x1 ∧ x1 ≤ 63
  rotate_left
  · rw [if_neg h1, if_pos rfl]
    by_cases h0 : x1 = 0
    · rw [if_pos h0]; exact ⟨_, _, _, _, _, _, rfl, ⟨_, rfl⟩, hga⟩
    · have h1' : ¬ (0 ≤ x1 ∧ x1 ≤ 63) := fun z => h1 ⟨by
        rw [Int32.le_iff_toInt_le] at z ⊢
        have : ¬ x1.toInt = (0 : Int32).toInt := fun e => h0 (Int32.toInt_inj.mp e)
        have e0 : (0 : Int32).toInt = 0 := by decide
        have e1 : (1 : Int32).toInt = 1 := by decide
        omega, z.2⟩
      rw [if_neg h0, if_neg h1', if_pos rfl]; exact ⟨_, _, _, _, _, _, rfl, ⟨_, rfl⟩, hga⟩
  have h0 : ¬ x1 = 0 := fun e => by rw [e] at h1; exact absurd h1.1 (by decide)
  simp only [if_neg h0, if_pos h1, if_pos (show 0 ≤ x1 ∧ x1 ≤ 63 from ⟨Int32.le_trans (by decide) h1.1, h1.2⟩), if_neg one_ne]
  by_cases h2 : 0 ≤ x2 ∧ x2 ≤ 255
  rotate_left
  · simp only [if_neg h2, if_true]; exact ⟨_, _, _, _, _, _, rfl, ⟨_, rfl⟩, hga⟩
  by_cases h3 : 0 ≤ x3 ∧ x3 ≤ 1
  rotate_left
  · simp only [if_pos h2, if_neg one_ne, if_neg h3, if_true]; exact ⟨_, _, _, _, _, _, rfl, ⟨_, rfl⟩, hga⟩
  simp only [if_pos h2, if_pos h3, if_neg one_ne]
  obtain ⟨C, hC, eC⟩ := nI_of2 (x := x1) (M := 63) (n := 63) (by decide) (Int32.not_lt.mpr (Int32.le_trans (by decide) h1.1)) h1.2
  obtain ⟨P, hP, eP⟩ := nI_of2 (x := x2) (M := 255) (n := 255) (by decide) (Int32.not_lt.mpr h2.1) h2.2
  have hway : x3 = 0 ∨ x3 = 1 := by
    obtain ⟨stp, e⟩ := in01 h3
    cases stp
    · exact Or.inl e
    · exact Or.inr e
  subst eC; subst eP
  have hC0 : 0 < C := by
    rcases Nat.eq_zero_or_pos C with e | e
    · subst e; exact absurd h1.1 (by decide)
    · exact e
  have hCex : ∃ c, c < 6 ∧ C.testBit c = true := by
    obtain ⟨b, hb, _⟩ := sub_miss (p := 0) (q := C) (by rw [Nat.zero_and]) hC0
    refine ⟨b, ?_, hb⟩
    rcases Nat.lt_or_ge b 6 with z | z
    · exact z
    · rw [Nat.testBit_lt_two_pow (Nat.lt_of_lt_of_le (show C < 2 ^ 6 by omega) (Nat.pow_le_pow_right (by omega) z))] at hb
      cases hb
  have hn8 := hN_256 (show P < 256 by omega)
  obtain ⟨v, we', w1, w2, w3, w4⟩ := weigh_s0 (mo := mo) (sw := sw) (C := C) dwt
  obtain ⟨bw', ch', c1, c2⟩ := choosers_3 hM hn hmem hblo S (nI C) (nI (hN P 10)) x3 rb rw0 cho FU 0 bw ch (by unfold FU; omega) (by omega) (fun c hc => by omega)
  obtain ⟨dch', dcho', ch2', cho2', q1, q2, q3⟩ := queue_both (C := C) (n := hN P 10) (we := we') (bw := bw') (al := sin) (M' := nI M) (bl := fun j => if j < M then sB mem day tld blo d k N j else rb j) (wr := fun j => if j < M then sW mem day tld blo wei d k N j else rw0 j) hway hCex hn8 (fun c hc hb => by rw [w4 c hc hb, (c2 c hc).1]) FU FU 0 (fill_row 0 6 dch) ch' dcho cho (by unfold FU; omega) (by unfold FU; omega) (by omega) (fun j hj => by unfold fill_row; rw [if_pos hj, (c2 j hj).2]) (fun j hj => by omega)
  rw [nI_0] at c1 q1 q2
  have hcM : F_X12_findChoosers (nI C) (nI (hN P 10)) x3 sin (nI M) (fun j => if j < M then sB mem day tld blo d k N j else rb j) bw ch cho (fun j => if j < M then sW mem day tld blo wei d k N j else rw0 j) = some (bw', ch2', cho2') := by
    unfold F_X12_findChoosers
    rw [c1, q2]
  rw [ones_s (show P < 1024 by omega), Option.bind_some, ← sAll10 (day := day) (tld := tld) (blo := blo) (d := d) (k := k) hM hmem, ← S.1, hcM, Option.bind_some, w1, Option.bind_some]
  dsimp only
  rcases deal_62 (C := C) (va := va) (mm := nI M) (NN' := nI N) (vd := d) (vk := k) (al := sin) (ma := sMany mem day tld blo d k N M) (told := 0) (we := sSum mem day tld blo wei d k N M) (blo := blo) (day := day) (mem := mem) (tld := tld) (wei := wei) (rb := fun j => if j < M then sB mem day tld blo d k N j else rb j) (bw := bw') (ch := ch2') (wr := fun j => if j < M then sW mem day tld blo wei d k N j else rw0 j) (x2 := nI P) (x4 := x4) (x5 := x5) (x6 := nI (hN P 10)) (cho := cho2') (ge := ge) (go := go) (ha := ha) (tk := tk) FU 0 (by unfold FU; omega) (by omega) (fun c hc => by omega) with ⟨e1, e2⟩ | ⟨e1, o, e2⟩
  · have hv1 : v = 1 := w3.mpr (fun c hc hb => by rw [← (c2 c hc).1]; exact e1 c hc hb)
    rw [nI_0] at e2
    rw [e2, if_neg (by rw [hv1]; exact one_ne), bitCount_N (show P < 1024 by omega), Option.bind_some]
    unfold F_X0_queueUp
    rw [fill_ok 0 dch (by omega), Option.bind_some, if_neg (show ¬ (8 : Int32) < nI (hN P 10) from nI_nlt (a := 8) hn8 (by omega)), q1, Option.bind_some]
    dsimp only
    unfold F_X0_handOut
    rw [fill_ok (-1) dow (by omega), Option.bind_some]
    obtain ⟨hd0, b1, b2⟩ := handOut_11 (C := C) (va := va) (x2 := nI P) (x3 := x4) (cnt := nI (hN P 10)) (cho := dcho') (ga := ga) (ow := fill_row (-1) 8 dow) (pk := dpk) FU 0 dhd (by unfold FU; omega) (by omega) (fun j hj => by omega)
    rw [nI_0] at b1
    rw [b1]
    -- what both foresee
    have hz21 := zero_21 (va := va) (q := 0) (by omega) (x1 := nI P) (x2 := nI (hN P 10)) (cho2 := cho2') (F_X12_findGets_2 (nI P) (nI (hN P 10)) cho2' va 99999) tk FU 0 ge ge (by unfold FU; omega) (by omega) (fun c hc => by omega) (fun _ _ => rfl)
    obtain ⟨ge1, z1, z2, z3⟩ := hz21
    have hgets0 : F_X12_findGets (nI P) (nI (hN P 10)) cho2' ge tk va = F_X12_findGets_2 (nI P) (nI (hN P 10)) cho2' va 99999 (nI 1) ge1 (upd tk 0 (-1)) := by
      unfold F_X12_findGets
      rw [nI_0] at z1
      rw [show FU = 99999 + 1 from rfl, F_X12_findGets_2, if_neg (show ¬ nI P < (0 : Int32) from nI_pos (by omega)), if_pos (show ((0 : Int32) &&& (nI P ^^^ (-1))) = 0 by rw [Int32.zero_and]), z1]
      unfold F_X12_findGets_47
      rw [show gin (0 : Int32) 256 = gin (nI 0) 256 from rfl, gin_n (by omega) (by omega), if_pos rfl]
      rfl
    have hR1 : GRel P 1 ga ge1 dpk (upd tk 0 (-1)) := by
      intro left hl hs
      have e : left = 0 := by omega
      subst e
      refine ⟨fun b hb => ⟨0, Nat.zero_le _, ?_, ?_⟩, fun z => absurd rfl z⟩
      · rw [Nat.mul_zero, Nat.zero_add, hga b hb]; rfl
      · rw [z2 b hb]; rfl
    obtain ⟨ga1, ge2, pk1, tk1, f1, f2, f3, f4⟩ := foresee_both (va := va) (P := P) (C := C) hV (by omega) rfl q3 FU 99999 1 ga ge1 dpk (upd tk 0 (-1)) (by unfold FU; omega) (by omega) (by omega) (by omega) hga hR1
    rw [hgets0, f2, Option.bind_some]
    dsimp only
    obtain ⟨ha0, m1, m2⟩ := deal_107 (va := va) (mm := nI M) (NN' := nI N) (vd := d) (vk := k) (al := sin) (ma := sMany mem day tld blo d k N M) (told := 0) (we := sSum mem day tld blo wei d k N M) (blo := blo) (day := day) (mem := mem) (tld := tld) (wei := wei) (rb := fun j => if j < M then sB mem day tld blo d k N j else rb j) (bw := bw') (ch := ch2') (wr := fun j => if j < M then sW mem day tld blo wei d k N j else rw0 j) (x1 := nI C) (x2 := nI P) (x4 := x4) (x5 := x5) (x6 := nI (hN P 10)) (cho := cho2') (ge := ge2) (go := go) (tk := tk1) FU 0 ha (by unfold FU; omega) (by omega) (fun j hj => by omega)
    rw [nI_0] at m1
    rw [m1]
    obtain ⟨go0, m3, m4⟩ := deal_131 (va := va) (mm := nI M) (NN' := nI N) (vd := d) (vk := k) (al := sin) (ma := sMany mem day tld blo d k N M) (told := 0) (we := sSum mem day tld blo wei d k N M) (blo := blo) (day := day) (mem := mem) (tld := tld) (wei := wei) (rb := fun j => if j < M then sB mem day tld blo d k N j else rb j) (bw := bw') (ch := ch2') (wr := fun j => if j < M then sW mem day tld blo wei d k N j else rw0 j) (x1 := nI C) (x2 := nI P) (x4 := x4) (x5 := x5) (x6 := nI (hN P 10)) (cho := cho2') (ge := ge2) (ha := ha0) (tk := tk1) FU 0 go (by unfold FU; omega) (by omega) (fun j hj => by omega)
    rw [nI_0] at m3
    rw [m3]
    have run : ∀ (gaX pkX : Nat → Int32), (¬ x4 = 0 → GRel P (P + 1) gaX ge2 pkX tk1) → ∃ hd' ow' ha' go', F_X0_handOut_60 x4 (nI (hN P 10)) dcho' va FU (nI P) 0 gaX hd0 (fill_row (-1) 8 dow) pkX = some (gaX, hd', ow', pkX) ∧ Alk 8 ow' go' ∧ Held C hd' ha' ∧
        F_X12_deal_158 (nI C) x4 x5 (nI M) (nI N) d k blo day mem tld wei va FU (nI (hN P 10)) (nI P) 0 sin (sMany mem day tld blo d k N M) 0 (sSum mem day tld blo wei d k N M) (fun j => if j < M then sB mem day tld blo d k N j else rb j) bw' ch2' cho2' ge2 go0 ha0 tk1 (fun j => if j < M then sW mem day tld blo wei d k N j else rw0 j) = F_X12_deal_253 (nI C) x5 (nI M) (nI N) d k blo day mem tld wei va (nI (hN P 10)) sin (sMany mem day tld blo d k N M) 0 (sSum mem day tld blo wei d k N M) (fun j => if j < M then sB mem day tld blo d k N j else rb j) bw' ch2' cho2' ge2 go' ha' tk1 (fun j => if j < M then sW mem day tld blo wei d k N j else rw0 j) := by
      intro gaX pkX hG
      have h := hand_both (va := va) (P := P) (mm := nI M) (NN' := nI N) (vd := d) (vk := k) (al := sin) (ma := sMany mem day tld blo d k N M) (told := 0) (we := sSum mem day tld blo wei d k N M) (blo := blo) (day := day) (mem := mem) (tld := tld) (wei := wei) (rb := fun j => if j < M then sB mem day tld blo d k N j else rb j) (bw := bw') (ch := ch2') (wr := fun j => if j < M then sW mem day tld blo wei d k N j else rw0 j) (C := C) (by omega) rfl q3 (ga := gaX) (ge := ge2) (pk := pkX) (tk := tk1) x4 x5 hG 0 FU FU P hd0 (fill_row (-1) 8 dow) ha0 go0 (by unfold FU; omega) (by unfold FU; omega) (by omega) (Nat.and_self P) (by omega) (fun j hj => by unfold fill_row; rw [if_pos hj, m4 j hj]) (fun b hb => by rw [b2 b hb, m2 b hb])
      rw [nI_0] at h
      exact h
    have fin : ∀ (gaX pkX hd' ow' ha' go' : Nat → Int32), (∀ b, b < 6 → gaX b = 0) → Alk 8 ow' go' → Held C hd' ha' →
        ∃ a dc' dch'' dcho'' ga' o1, (if (10 : Int32) ≤ x5 then (if (20 : Int32) ≤ x5 then ((F_X0_chooserAt (x5 - (20 : Int32)) (nI (hN P 10)) dcho').bind (fun r22 => (some (r22, (nI (hN P 10)), dch', dcho', gaX, hd', ow', pkX, we')))) else ((F_X0_heldBy (x5 - (10 : Int32)) hd').bind (fun r24 => (some (r24, (nI (hN P 10)), dch', dcho', gaX, hd', ow', pkX, we'))))) else ((F_X0_ownerOf x5 ow').bind (fun r26 => (some (r26, (nI (hN P 10)), dch', dcho', gaX, hd', ow', pkX, we'))))) = some (a, dc', dch'', dcho'', ga', o1) ∧ (∃ o2, F_X12_deal_253 (nI C) x5 (nI M) (nI N) d k blo day mem tld wei va (nI (hN P 10)) sin (sMany mem day tld blo d k N M) 0 (sSum mem day tld blo wei d k N M) (fun j => if j < M then sB mem day tld blo d k N j else rb j) bw' ch2' cho2' ge2 go' ha' tk1 (fun j => if j < M then sW mem day tld blo wei d k N j else rw0 j) = some (a, o2)) ∧ ∀ b, b < 6 → ga' b = 0 := by
      intro gaX pkX hd' ow' ha' go' hz hA hH
      obtain ⟨u, u1, u2, u3, o, u4⟩ := ask_both (va := va) (mm := nI M) (NN' := nI N) (vd := d) (vk := k) (al := sin) (ma := sMany mem day tld blo d k N M) (told := 0) (we := sSum mem day tld blo wei d k N M) (blo := blo) (day := day) (mem := mem) (tld := tld) (wei := wei) (rb := fun j => if j < M then sB mem day tld blo d k N j else rb j) (bw := bw') (ch := ch2') (wr := fun j => if j < M then sW mem day tld blo wei d k N j else rw0 j) (ge := ge2) (tk := tk1) hn8 q3 hA hH x5
      by_cases c10 : (10 : Int32) ≤ x5
      · by_cases c20 : (20 : Int32) ≤ x5
        · rw [if_pos c10, if_pos c20, u1 c10 c20, Option.bind_some]
          exact ⟨_, _, _, _, _, _, rfl, ⟨_, u4⟩, hz⟩
        · rw [if_pos c10, if_neg c20, u2 c10 c20, Option.bind_some]
          exact ⟨_, _, _, _, _, _, rfl, ⟨_, u4⟩, hz⟩
      · rw [if_neg c10, u3 c10, Option.bind_some]
        exact ⟨_, _, _, _, _, _, rfl, ⟨_, u4⟩, hz⟩
    unfold F_X0_handOut_45
    by_cases hs : x4 = 0
    · obtain ⟨hd', ow', ha', go', r1, r2, r3, r4⟩ := run ga dpk (fun z => absurd hs z)
      rw [if_pos hs, r1, r4, Option.bind_some]
      exact fin ga dpk hd' ow' ha' go' hga r2 r3
    · obtain ⟨hd', ow', ha', go', r1, r2, r3, r4⟩ := run ga1 pk1 (fun _ => f4)
      unfold F_X0_foresee
      rw [if_neg hs, show F_X0_foresee_2 (nI P) (nI (hN P 10)) dcho' va FU 1 ga dpk = some (ga1, pk1) from f1, Option.bind_some]
      dsimp only
      rw [r1, r4, Option.bind_some]
      exact fin ga1 pk1 hd' ow' ha' go' f3 r2 r3
  · have hv0 : v = 0 := w2.resolve_right (fun z => e1 (fun c hc hb => by rw [(c2 c hc).1]; exact w3.mp z c hc hb))
    rw [nI_0] at e2
    rw [e2, if_pos hv0]
    exact ⟨_, _, _, _, _, _, rfl, ⟨_, rfl⟩, hga⟩
end DB2
