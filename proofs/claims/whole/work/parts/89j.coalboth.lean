/-! coalition: both sides -/
noncomputable def hgB (pl : Nat → Int32) (al q : Nat) : Bool := @decide (hgP pl al q 6) (Classical.propDecidable _)
theorem hgB_s {pl : Nat → Int32} {al q : Nat} : F_X2_hangsTogether (nI q) (nI al) pl = some (if hgB pl al q = true then 1 else 0) ∧ F_X12_hangs (nI q) (nI al) pl = some (if hgB pl al q = true then 1 else 0) := by
  obtain ⟨v, a1, a2, a3⟩ := hangsT_16 (pl := pl) (q := q) (al := al) FU 0 (by unfold FU; omega) (by omega) (fun b hb => by omega)
  obtain ⟨w, b1, b2⟩ := hangs_same (pl := pl) (q := q) al
  have e1 : F_X2_hangsTogether (nI q) (nI al) pl = some v := by
    unfold F_X2_hangsTogether
    rw [nI_0] at a1
    rw [smallest_s, greatest_s, Option.bind_some, Option.bind_some, a1]
  have ev : v = if hgB pl al q = true then 1 else 0 := by
    by_cases c : hgP pl al q 6
    · have : hgB pl al q = true := by unfold hgB; exact (@decide_eq_true_iff _ (Classical.propDecidable _)).mpr c
      rw [this, if_pos rfl]; exact a3.mpr c
    · have : ¬ hgB pl al q = true := by unfold hgB; exact fun z => c ((@decide_eq_true_iff _ (Classical.propDecidable _)).mp z)
      rw [if_neg this]
      exact a2.resolve_right (fun z => c (a3.mp z))
  rw [e1] at b1
  cases b1
  exact ⟨by rw [e1, ev], by rw [b2, ev]⟩
section CO
variable (pl : Nat → Int32) (al : Nat) (sin sal : Int32) (mo sw : Nat → Int32) (L : List (Nat × Nat))
noncomputable def okq (q : Nat) : Bool := decide (q &&& al = q) && hgB pl al q && decide (¬ says (lfS sin sal mo sw (mqB mo q 6)) L = 0)
def wtq (q : Nat) : Int32 := wSum sw (mqB mo q 6) 10
noncomputable def bsC : Nat → Option Nat
  | 0 => none
  | q + 1 => if ¬ q = 0 ∧ okq pl al sin sal mo sw L q = true then (match bsC q with
      | none => some q
      | some b => if spn pl q < spn pl b ∨ (spn pl q = spn pl b ∧ wtq mo sw q < wtq mo sw b) then some q else some b) else bsC q
noncomputable def cnC : Nat → Nat
  | 0 => 0
  | q + 1 => if ¬ q = 0 ∧ okq pl al sin sal mo sw L q = true then cnC q + 1 else cnC q
end CO
def bI : Option Nat → Int32
  | none => -1
  | some b => nI b
def sI (pl : Nat → Int32) : Option Nat → Int32
  | none => -1
  | some b => spn pl b
def wI (mo sw : Nat → Int32) : Option Nat → Int32
  | none => -1
  | some b => wtq mo sw b
/-- what is kept -/
def kpB (pl mo sw : Nat → Int32) (q : Nat) : Option Nat → Int32 × Int32 × Int32
  | none => (nI q, spn pl q, wtq mo sw q)
  | some b => if spn pl q < spn pl b ∨ (spn pl q = spn pl b ∧ wtq mo sw q < wtq mo sw b) then (nI q, spn pl q, wtq mo sw q) else (nI b, spn pl b, wtq mo sw b)
section CP
variable {pl : Nat → Int32} {al : Nat} {sin sal : Int32} {mo sw : Nat → Int32} {L : List (Nat × Nat)}
theorem bsC_lt : ∀ n b, bsC pl al sin sal mo sw L n = some b → b < n := by
  intro n
  induction n with
  | zero => intro b h; cases h
  | succ n ih =>
    intro b h
    rw [bsC] at h
    by_cases c : ¬ n = 0 ∧ okq pl al sin sal mo sw L n = true
    · rw [if_pos c] at h
      rcases hb : bsC pl al sin sal mo sw L n with _ | b'
      · rw [hb] at h; cases h; omega
      · rw [hb] at h
        dsimp only at h
        by_cases z : spn pl n < spn pl b' ∨ (spn pl n = spn pl b' ∧ wtq mo sw n < wtq mo sw b')
        · rw [if_pos z] at h; cases h; omega
        · rw [if_neg z] at h
          have h2 := Option.some.inj h
          have := ih b' hb; omega
    · rw [if_neg c] at h
      have := ih b h; omega
theorem cnC_le : ∀ n, cnC pl al sin sal mo sw L n ≤ n := by
  intro n
  induction n with
  | zero => exact Nat.le_refl _
  | succ n ih =>
    rw [cnC]
    by_cases c : ¬ n = 0 ∧ okq pl al sin sal mo sw L n = true
    · rw [if_pos c]; omega
    · rw [if_neg c]; omega
theorem okq_big {q : Nat} (h : al < q) : ¬ okq pl al sin sal mo sw L q = true := fun c => by
  unfold okq at c
  rw [Bool.and_eq_true, Bool.and_eq_true, decide_eq_true_iff] at c
  have := sub_le c.1.1
  omega
theorem co_cut : ∀ t, bsC pl al sin sal mo sw L (al + 1 + t) = bsC pl al sin sal mo sw L (al + 1) ∧ cnC pl al sin sal mo sw L (al + 1 + t) = cnC pl al sin sal mo sw L (al + 1) := by
  intro t
  induction t with
  | zero => exact ⟨rfl, rfl⟩
  | succ t ih =>
    rw [← Nat.add_assoc, bsC, cnC, if_neg (fun z => okq_big (by omega) z.2), if_neg (fun z => okq_big (by omega) z.2)]
    exact ih
theorem keep_s2 {q : Nat} (o : Option Nat) (ho : ∀ b, o = some b → b < 64) : F_X2_keepBetter (nI q) (spn pl q) (wtq mo sw q) (bI o) (sI pl o) (wI mo sw o) = some (kpB pl mo sw q o) := by
  unfold F_X2_keepBetter F_X2_keepBetter_32
  rcases o with _ | b
  · rfl
  · have hb := ho b rfl
    show (if nI b = -1 then _ else _) = _
    rw [if_neg (neg1_ne (by omega))]
    show (if spn pl q < spn pl b then _ else if spn pl q = spn pl b then if wtq mo sw b ≤ wtq mo sw q then some (nI b, spn pl b, wtq mo sw b) else _ else some (nI b, spn pl b, wtq mo sw b)) = _
    rw [kpB]
    by_cases c1 : spn pl q < spn pl b
    · rw [if_pos c1, if_pos (Or.inl c1)]
    · rw [if_neg c1]
      by_cases c2 : spn pl q = spn pl b
      · rw [if_pos c2]
        by_cases c3 : wtq mo sw b ≤ wtq mo sw q
        · rw [if_pos c3, if_neg (fun z => z.elim c1 (fun y => absurd y.2 (Int32.not_lt.mpr c3)))]
        · rw [if_neg c3, if_pos (Or.inr ⟨c2, Int32.not_le.mp c3⟩)]
      · rw [if_neg c2, if_neg (fun z => z.elim c1 (fun y => c2 y.1))]
end CP
section CQ
variable {mem day tld blo wei : Nat → Int32} {d k : Int32} {N M : Nat}
theorem lseek_28 (hM : M ≤ 10) (hmem : ∀ i, i < N → ∃ mi, mi < M ∧ mem i = nI mi) {sin sal : Int32} {mo sw : Nat → Int32} (S : Seated mem day tld blo wei d k N sin sal mo sw) {L : List (Nat × Nat)} (hL : Good L) {code bits pl : Nat → Int32} (hcode : ∀ j c, L[j]? = some c → code j = nI (c.1 * 16384 + c.2)) (fr : Int32) (hfr : ¬ fr = 0 → Truth sin sal mo sw L bits 1024) {al : Nat} (hal : al < 64) :
    ∀ (fuel q : Nat) (st : Nat → Int32), 65 - q < fuel → 1 ≤ q → q ≤ al + 1 → ∃ st', F_X2_seek_28 (nI L.length) code fr bits sal sin mo sw pl fuel (nI al) (nI q) st (bI (bsC pl al sin sal mo sw L q)) (sI pl (bsC pl al sin sal mo sw L q)) (wI mo sw (bsC pl al sin sal mo sw L q)) (nI (cnC pl al sin sal mo sw L q)) =
      some (st', bI (bsC pl al sin sal mo sw L 64), sI pl (bsC pl al sin sal mo sw L 64), wI mo sw (bsC pl al sin sal mo sw L 64), nI (cnC pl al sin sal mo sw L 64)) := by
  have hsin : ∀ i, 10 ≤ i → i < 32 → bt sin i = false := by rw [S.1]; exact sAll_hi (Nat.le_refl _)
  intro fuel
  induction fuel with
  | zero => intro q st h; omega
  | succ n ih =>
    intro q st h h1 hq
    rw [F_X2_seek_28]
    rcases Nat.lt_or_ge al q with hlt | hge
    · have e : q = al + 1 := by omega
      have hc := co_cut (pl := pl) (al := al) (sin := sin) (sal := sal) (mo := mo) (sw := sw) (L := L) (64 - (al + 1))
      rw [show al + 1 + (64 - (al + 1)) = 64 by omega] at hc
      subst e
      rw [if_pos (nI_lt hlt (by omega)), hc.1, hc.2]
      exact ⟨st, rfl⟩
    · have next := fun st' => ih (q + 1) st' (by omega) (by omega) (by omega)
      have skip : ¬ okq pl al sin sal mo sw L q = true → ∀ st', ∃ st'', F_X2_seek_28 (nI L.length) code fr bits sal sin mo sw pl n (nI al) (nI (q + 1)) st' (bI (bsC pl al sin sal mo sw L q)) (sI pl (bsC pl al sin sal mo sw L q)) (wI mo sw (bsC pl al sin sal mo sw L q)) (nI (cnC pl al sin sal mo sw L q)) =
          some (st'', bI (bsC pl al sin sal mo sw L 64), sI pl (bsC pl al sin sal mo sw L 64), wI mo sw (bsC pl al sin sal mo sw L 64), nI (cnC pl al sin sal mo sw L 64)) := by
        intro hno st'
        have := next st'
        rw [bsC, cnC, if_neg (fun z => hno z.2), if_neg (fun z => hno z.2)] at this
        exact this
      rw [if_neg (nI_nlt hge (by omega)), isWithin_s, Option.bind_some, nI_1 q, hgB_s.1, Option.bind_some, ofBlocs_s, Option.bind_some]
      by_cases c1 : (nI q &&& (nI al ^^^ (-1))) = 0
      · have hw := (win_sub (show q < 1024 by omega) (show al < 1024 by omega)).mp c1
        rw [if_pos c1, if_neg one_ne]
        by_cases c2 : hgB pl al q = true
        · rw [if_pos c2, if_neg one_ne]
          obtain ⟨p, hp, ep⟩ := within_small hsin (mqB_win hM hmem S q)
          obtain ⟨row', g1⟩ := passes_s (sal := sal) (mo := mo) (sw := sw) hL hsin hcode fr st bits hfr hp (by rw [← ep]; exact mqB_win hM hmem S q)
          rw [ep, g1, Option.bind_some]
          dsimp only
          rw [← ep]
          by_cases c3 : says (lfS sin sal mo sw (mqB mo q 6)) L = 0
          · rw [if_pos c3]
            refine skip (fun z => ?_) row'
            unfold okq at z
            rw [Bool.and_eq_true, decide_eq_true_iff] at z
            exact z.2 c3
          · have hok : okq pl al sin sal mo sw L q = true := by
              unfold okq
              rw [decide_eq_true hw, c2, decide_eq_true c3]; rfl
            rw [if_neg c3, greatest_s, smallest_s, Option.bind_some, Option.bind_some, weightOf_s, Option.bind_some, show hiP pl q 6 - loP pl q 6 = spn pl q from rfl, show wSum sw (mqB mo q 6) 10 = wtq mo sw q from rfl, keep_s2 _ (fun b hb => by have := bsC_lt q b hb; omega), Option.bind_some, nI_1]
            have nx := next row'
            rw [bsC, cnC, if_pos ⟨by omega, hok⟩, if_pos ⟨by omega, hok⟩] at nx
            rcases ho : bsC pl al sin sal mo sw L q with _ | b
            · rw [ho] at nx
              exact nx
            · rw [ho] at nx
              rw [kpB]
              dsimp only at nx
              by_cases z : spn pl q < spn pl b ∨ (spn pl q = spn pl b ∧ wtq mo sw q < wtq mo sw b)
              · rw [if_pos z] at nx
                rw [if_pos z]; exact nx
              · rw [if_neg z] at nx
                rw [if_neg z]; exact nx
        · rw [if_neg c2, if_pos rfl]
          refine skip (fun z => ?_) st
          unfold okq at z
          rw [Bool.and_eq_true, Bool.and_eq_true] at z
          exact c2 z.1.2
      · rw [if_neg c1, if_pos rfl]
        refine skip (fun z => ?_) st
        unfold okq at z
        rw [Bool.and_eq_true, Bool.and_eq_true, decide_eq_true_iff] at z
        exact c1 ((win_sub (show q < 1024 by omega) (show al < 1024 by omega)).mpr z.1.1)
theorem mcoal_43 (hM : M ≤ 10) (hn : N ≤ 200) (hmem : ∀ i, i < N → ∃ mi, mi < M ∧ mem i = nI mi) (hblo : ∀ i, i < N → blo i = -1 ∨ ∃ b, b < 6 ∧ blo i = nI b) {sin sal : Int32} {mo sw : Nat → Int32} (S : Seated mem day tld blo wei d k N sin sal mo sw) {L : List (Nat × Nat)} {codes : Int32} {code cm op arg pl : Nat → Int32} {r : Nat} (hr : r < 4) (R : RuleIs L codes code r cm op arg) {al : Nat} (hal : al < 64) (x2 NN' vd vk told : Int32) (rb rw0 : Nat → Int32) :
    ∀ (fuel q : Nat) (st : Nat → Int32), 64 - q < fuel → 1 ≤ q → q ≤ 64 → ∃ st', F_X12_coalition_43 (nI r) x2 (nI M) NN' vd vk arg cm op pl blo day mem tld wei fuel (nI al) (bI (bsC pl al sin sal mo sw L q)) (nI (cnC pl al sin sal mo sw L q)) (nI q) sin (sMany mem day tld blo d k N M) told (sSum mem day tld blo wei d k N M) (fun j => if j < M then sB mem day tld blo d k N j else rb j) st (fun j => if j < M then sW mem day tld blo wei d k N j else rw0 j) =
      F_X12_coalition_175 x2 (nI M) NN' vd vk arg cm op pl blo day mem tld wei (bI (bsC pl al sin sal mo sw L 64)) (nI (cnC pl al sin sal mo sw L 64)) sin (sMany mem day tld blo d k N M) told (sSum mem day tld blo wei d k N M) (fun j => if j < M then sB mem day tld blo d k N j else rb j) st' (fun j => if j < M then sW mem day tld blo wei d k N j else rw0 j) := by
  have hmq : ∀ q, ∀ i, i < 32 → bt (mqB mo q 6) i = true → i < M := fun q i hi h => (mqB_in hM hmem S q i hi h).2
  intro fuel
  induction fuel with
  | zero => intro q st h; omega
  | succ n ih =>
    intro q st h h1 hq
    rw [F_X12_coalition_43]
    rcases Nat.lt_or_ge q 64 with hlt | hge
    · have next := fun st' => ih (q + 1) st' (by omega) (by omega) (by omega)
      have skip : ¬ okq pl al sin sal mo sw L q = true → ∀ st', ∃ st'', F_X12_coalition_43 (nI r) x2 (nI M) NN' vd vk arg cm op pl blo day mem tld wei n (nI al) (bI (bsC pl al sin sal mo sw L q)) (nI (cnC pl al sin sal mo sw L q)) (nI (q + 1)) sin (sMany mem day tld blo d k N M) told (sSum mem day tld blo wei d k N M) (fun j => if j < M then sB mem day tld blo d k N j else rb j) st' (fun j => if j < M then sW mem day tld blo wei d k N j else rw0 j) =
          F_X12_coalition_175 x2 (nI M) NN' vd vk arg cm op pl blo day mem tld wei (bI (bsC pl al sin sal mo sw L 64)) (nI (cnC pl al sin sal mo sw L 64)) sin (sMany mem day tld blo d k N M) told (sSum mem day tld blo wei d k N M) (fun j => if j < M then sB mem day tld blo d k N j else rb j) st'' (fun j => if j < M then sW mem day tld blo wei d k N j else rw0 j) := by
        intro hno st'
        have := next st'
        rw [bsC, cnC, if_neg (fun z => hno z.2), if_neg (fun z => hno z.2)] at this
        exact this
      rw [if_neg (show ¬ (64 : Int32) ≤ nI q from nI_ge (b := 64) hlt (by omega)), hgB_s.2, Option.bind_some, membersOf_s hM hn hmem hblo S q rb, Option.bind_some, nI_1 q]
      by_cases c1 : (nI q &&& (nI al ^^^ (-1))) = 0
      · have hw := (win_sub (show q < 1024 by omega) (show al < 1024 by omega)).mp c1
        rw [if_pos c1]
        by_cases c2 : hgB pl al q = true
        · rw [if_pos c2, if_neg one_ne]
          obtain ⟨st1, g1⟩ := carriesBy_seat hM hn hmem S hr R (mqB_win hM hmem S q) st rb rw0
          rw [g1, Option.bind_some]
          dsimp only
          by_cases c3 : says (lfS sin sal mo sw (mqB mo q 6)) L = 0
          · rw [if_pos c3]
            refine skip (fun z => ?_) st1
            unfold okq at z
            rw [Bool.and_eq_true, decide_eq_true_iff] at z
            exact z.2 c3
          · have hok : okq pl al sin sal mo sw L q = true := by
              unfold okq
              rw [decide_eq_true hw, c2, decide_eq_true c3]; rfl
            rw [if_neg c3]
            unfold F_X12_coalition_116
            have nx := next st1
            rw [bsC, cnC, if_pos ⟨by omega, hok⟩, if_pos ⟨by omega, hok⟩] at nx
            rcases ho : bsC pl al sin sal mo sw L q with _ | b
            · rw [ho] at nx
              rw [if_pos (show bI none = -1 from rfl), if_pos (show bI none = -1 from rfl), nI_1, nI_1]
              exact nx
            · have hb := bsC_lt q b ho
              rw [ho] at nx
              dsimp only at nx
              rw [show bI (some b) = nI b from rfl, if_neg (neg1_ne (by omega)), if_neg (neg1_ne (by omega)), span_s, span_s, membersOf_s hM hn hmem hblo S q rb, membersOf_s hM hn hmem hblo S b rb]
              simp only [Option.bind_some]
              rw [weight_s hM S (hmq q) rb rw0, weight_s hM S (hmq b) rb rw0]
              simp only [Option.bind_some]
              rw [nI_1, nI_1]
              by_cases d1 : spn pl q ≤ spn pl b
              · rw [if_pos d1]
                by_cases d2 : spn pl q = spn pl b
                · rw [if_pos d2]
                  by_cases d3 : wtq mo sw q < wtq mo sw b
                  · rw [if_pos (Or.inr ⟨d2, d3⟩)] at nx
                    rw [if_pos (show wSum sw (mqB mo q 6) 10 < wSum sw (mqB mo b 6) 10 from d3)]
                    exact nx
                  · rw [if_neg (fun z => z.elim (fun y => by rw [d2] at y; exact Int32.lt_irrefl y) (fun y => d3 y.2))] at nx
                    rw [if_neg (show ¬ wSum sw (mqB mo q 6) 10 < wSum sw (mqB mo b 6) 10 from d3)]
                    exact nx
                · rw [if_neg d2]
                  have hlt2 : spn pl q < spn pl b := by
                    rw [Int32.lt_iff_toInt_lt]
                    rw [Int32.le_iff_toInt_le] at d1
                    have : ¬ (spn pl q).toInt = (spn pl b).toInt := fun e => d2 (Int32.toInt_inj.mp e)
                    omega
                  rw [if_pos (Or.inl hlt2)] at nx
                  exact nx
              · rw [if_neg d1]
                rw [if_neg (fun z => z.elim (fun y => d1 (Int32.le_of_lt y)) (fun y => d1 (by rw [y.1]; exact Int32.le_refl _)))] at nx
                exact nx
        · rw [if_neg c2, if_pos rfl]
          refine skip (fun z => ?_) st
          unfold okq at z
          rw [Bool.and_eq_true, Bool.and_eq_true] at z
          exact c2 z.1.2
      · rw [if_neg c1]
        refine skip (fun z => ?_) st
        unfold okq at z
        rw [Bool.and_eq_true, Bool.and_eq_true, decide_eq_true_iff] at z
        exact c1 ((win_sub (show q < 1024 by omega) (show al < 1024 by omega)).mpr z.1.1)
    · have e : q = 64 := by omega
      subst e
      rw [if_pos (show (64 : Int32) ≤ nI 64 by decide)]
      exact ⟨st, rfl⟩
theorem small6 {x : Int32} (h : ∀ i, 6 ≤ i → i < 32 → bt x i = false) : ∃ q, q < 64 ∧ x = nI q := by
  refine ⟨x.toBitVec.toNat % 2 ^ 6, Nat.mod_lt _ (by decide), b_ext (fun i hi => ?_)⟩
  rw [bt_nI hi, Nat.testBit_mod_two_pow]
  by_cases c : i < 6
  · rw [decide_eq_true c, Bool.true_and]; rfl
  · rw [decide_eq_false c, Bool.false_and]; exact h i (by omega) hi
theorem coalition_both (hM : M ≤ 10) (hn : N ≤ 200) (hmem : ∀ i, i < N → ∃ mi, mi < M ∧ mem i = nI mi) (hblo : ∀ i, i < N → blo i = -1 ∨ ∃ b, b < 6 ∧ blo i = nI b) {sin sal : Int32} {mo sw : Nat → Int32} (S : Seated mem day tld blo wei d k N sin sal mo sw) {L : List (Nat × Nat)} {codes fr : Int32} {code bits cm op arg pl : Nat → Int32} {x y : Int32} (R : ∀ r, r < 4 → x = nI r → RuleIs L codes code r cm op arg) (hfr : ¬ fr = 0 → Truth sin sal mo sw L bits 1024) (al ma we told bs sp bw ct : Int32) (cst st rb rw0 : Nat → Int32) :
    ∃ a o1, F_X11_coalition x y bs sp bw ct pl codes code cst fr bits sal sin mo sw = some (a, o1) ∧ ∃ o2, F_X12_coalition x y al ma (nI M) (nI N) told d k we arg rb cm op pl blo day mem tld wei st rw0 = some (a, o2) := by
  unfold F_X11_coalition F_X12_coalition F_X12_findsView
  rw [isRule_s, inside_s, isIn_s, finds_s d k hn hM]
  simp only [Option.bind_some]
  by_cases hx : 0 ≤ x ∧ x < 4
  rotate_left
  · simp only [if_neg hx, if_true]
    exact ⟨_, _, rfl, _, rfl⟩
  simp only [if_pos hx, if_neg one_ne]
  obtain ⟨r, hr31, er⟩ := nI_of (Int32.not_lt.mpr hx.1)
  subst er
  have hr : r < 4 := (nI_ltI (b := 4) hr31 (by omega)).mp hx.2
  have hR := R r hr rfl
  obtain ⟨A, hA, eA⟩ := small6 (x := cBlocs mo 6) (fun i a b => by rw [cBlocs_bt mo 6 (by omega) i b, decide_eq_false (show ¬ i < 6 by omega), Bool.false_and])
  have hbl : F_X12_blocsIn (sAll mem day tld blo d k N M) (nI M) (fun j => if j < M then sB mem day tld blo d k N j else rb j) = some (nI A) := by
    rw [blocsIn_s hM, ← blocs_same (rb := rb) hM hn hmem hblo S, eA]
  rw [hbl, ← sAll10 (day := day) (tld := tld) (blo := blo) (d := d) (k := k) hM hmem, ← S.1]
  simp only [Option.bind_some]
  unfold F_X2_seek
  obtain ⟨st1, l1⟩ := lseek_28 (pl := pl) hM hmem S hR.1 hR.2.2.1 fr hfr hA FU 1 cst (by unfold FU; omega) (by omega) (by omega)
  obtain ⟨st2, l2⟩ := mcoal_43 (pl := pl) hM hn hmem hblo S hr hR hA y (nI N) d k 0 rb rw0 FU 1 st (by unfold FU; omega) (by omega) (by omega)
  have hb1 : bsC pl A sin sal mo sw L 1 = none := by rw [bsC, if_neg (fun z => z.1 rfl)]; rfl
  have hc1 : cnC pl A sin sal mo sw L 1 = 0 := by rw [cnC, if_neg (fun z => z.1 rfl)]; rfl
  rw [hb1, hc1, nI_0, show nI 1 = (1 : Int32) from rfl] at l1 l2
  rw [show bI none = -1 from rfl, show sI pl none = -1 from rfl, show wI mo sw none = -1 from rfl] at l1
  rw [show bI none = -1 from rfl] at l2
  rw [gin_n hr (by omega), blocs_s, Option.bind_some, eA, hR.2.1, l1, Option.bind_some, l2]
  dsimp only
  unfold F_X12_coalition_175
  by_cases hy : 0 ≤ y ∧ y ≤ 3
  · obtain ⟨j, hj, ej⟩ := nI_of2 (x := y) (M := 3) (n := 3) (by decide) (Int32.not_lt.mpr hy.1) hy.2
    subst ej
    simp only [if_pos hy, if_neg one_ne]
    have hlt := fun b h => bsC_lt (pl := pl) (al := A) (sin := sin) (sal := sal) (mo := mo) (sw := sw) (L := L) 64 b h
    generalize cnC pl A sin sal mo sw L 64 = cc
    generalize bsC pl A sin sal mo sw L 64 = o at hlt ⊢
    rcases o with _ | b
    · rcases (show j = 0 ∨ j = 1 ∨ j = 2 ∨ j = 3 by omega) with e | e | e | e <;> subst e <;> exact ⟨_, _, rfl, _, rfl⟩
    · have hb := hlt b rfl
      rw [show bI (some b) = nI b from rfl, if_neg (neg1_ne (show b < 2 ^ 31 by omega)), span_s, Option.bind_some, membersOf_s hM hn hmem hblo S b rb, Option.bind_some, weight_s hM S (fun i hi h => (mqB_in hM hmem S b i hi h).2) rb rw0, Option.bind_some]
      rcases (show j = 0 ∨ j = 1 ∨ j = 2 ∨ j = 3 by omega) with e | e | e | e <;> subst e <;> exact ⟨_, _, rfl, _, rfl⟩
  · have hne : ∀ j : Nat, j ≤ 3 → ¬ y = nI j := by
      intro j hj e
      apply hy
      rw [e]
      exact ⟨nI_pos' (by omega), nI_le (b := 3) hj (by omega)⟩
    simp only [if_neg hy, if_true, if_neg (show ¬ y = 0 from hne 0 (by omega)), if_neg (show ¬ y = 1 from hne 1 (by omega)), if_neg (show ¬ y = 2 from hne 2 (by omega)), if_neg (show ¬ y = 3 from hne 3 (by omega))]
    exact ⟨_, _, rfl, _, rfl⟩
end CQ
