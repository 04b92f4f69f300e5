/-! deal: weights and choosers -/
theorem mqB_one {mo : Nat → Int32} {b : Nat} (hb : b < 6) : mqB mo (2 ^ b) 6 = mo b := by
  apply b_ext
  intro i hi
  rw [Bool.eq_iff_iff, mqB_bt]
  constructor
  · rintro ⟨c, h1, h2, h3⟩
    rw [Nat.testBit_two_pow, decide_eq_true_iff] at h2
    rw [h2]; exact h3
  · intro h
    exact ⟨b, hb, by rw [Nat.testBit_two_pow]; simp, h⟩
def bwt (mo sw : Nat → Int32) (b : Nat) : Int32 := wSum sw (mo b) 10
section WG
variable {mo sw : Nat → Int32} {C : Nat}
theorem weigh_5 : ∀ (fuel b : Nat) (x3 : Int32) (we : Nat → Int32), 6 - b < fuel → b ≤ 6 → (x3 = 0 ∨ x3 = 1) → (x3 = 1 ↔ ∀ c, c < b → C.testBit c = true → ¬ bwt mo sw c = 0) → (∀ c, c < b → C.testBit c = true → we c = bwt mo sw c) →
    ∃ v we', F_X0_weigh_5 (nI C) mo sw fuel x3 (nI b) we = some (v, we') ∧ (v = 0 ∨ v = 1) ∧ (v = 1 ↔ ∀ c, c < 6 → C.testBit c = true → ¬ bwt mo sw c = 0) ∧ ∀ c, c < 6 → C.testBit c = true → we' c = bwt mo sw c := by
  intro fuel
  induction fuel with
  | zero => intro b x3 we h; omega
  | succ n ih =>
    intro b x3 we h hb h01 hx hw
    rw [F_X0_weigh_5]
    unfold F_X0_weigh_41
    rcases Nat.lt_or_ge b 6 with hlt | hge
    · rw [if_neg (show ¬ (6 : Int32) ≤ nI b from nI_ge (b := 6) hlt (by omega)), has_s _ (show b < 32 by omega), bt_nI (show b < 32 by omega)]
      simp only [Option.bind_some, gin_n hlt (show 6 < 2 ^ 31 by omega), nI_clamp (show b < 2 ^ 31 by omega), nI_1, upd_self, ofBloc_s hlt, weightOf_s]
      have keep : ∀ v, (C.testBit b = true → v = bwt mo sw b) → ∀ c, c < b + 1 → C.testBit c = true → (upd we b v) c = bwt mo sw c := by
        intro v hv c hc hC
        by_cases e : c = b
        · subst e; rw [upd_self]; exact hv hC
        · rw [upd_ne _ _ e]; exact hw c (by omega) hC
      by_cases c : C.testBit b = true
      · rw [if_pos c, if_neg one_ne, if_neg one_ne]
        by_cases z : wSum sw (mo b) 10 = 0
        · rw [if_pos z]
          exact ih (b + 1) 0 _ (by omega) (by omega) (Or.inl rfl) ⟨fun e => absurd e.symm one_ne, fun e => absurd z (e b (by omega) c)⟩ (keep _ (fun _ => rfl))
        · rw [if_neg z]
          refine ih (b + 1) x3 _ (by omega) (by omega) h01 ?_ (keep _ (fun _ => rfl))
          rw [hx]
          constructor
          · intro hh d hd hC
            by_cases e : d = b
            · subst e; exact z
            · exact hh d (by omega) hC
          · intro hh d hd hC; exact hh d (by omega) hC
      · rw [if_neg c, if_pos rfl, if_pos rfl]
        refine ih (b + 1) x3 _ (by omega) (by omega) h01 ?_ (keep _ (fun y => absurd y c))
        rw [hx]
        constructor
        · intro hh d hd hC
          by_cases e : d = b
          · subst e; exact absurd hC c
          · exact hh d (by omega) hC
        · intro hh d hd hC; exact hh d (by omega) hC
    · have e : b = 6 := by omega
      subst e
      rw [if_pos (show (6 : Int32) ≤ nI 6 by decide), gb, if_pos h01]
      exact ⟨x3, we, rfl, h01, hx, hw⟩
theorem weigh_s0 (we : Nat → Int32) : ∃ v we', F_X0_weigh (nI C) mo sw we = some (v, we') ∧ (v = 0 ∨ v = 1) ∧ (v = 1 ↔ ∀ c, c < 6 → C.testBit c = true → ¬ bwt mo sw c = 0) ∧ ∀ c, c < 6 → C.testBit c = true → we' c = bwt mo sw c := by
  unfold F_X0_weigh
  have h := weigh_5 (mo := mo) (sw := sw) (C := C) FU 0 1 we (by unfold FU; omega) (by omega) (Or.inr rfl) ⟨fun _ c hc => by omega, fun _ => rfl⟩ (fun c hc => by omega)
  rw [nI_0] at h
  exact h
/-! who comes to choose -/
def kfw (way x : Int32) : Int32 := if way = 0 then x + 1 else 2 * x + 1
theorem kfw_c {way : Int32} (h : way = 0 ∨ way = 1) (x : Int32) : x * (way + 1) + 1 = kfw way x := by
  unfold kfw
  rcases h with e | e
  · subst e
    rw [if_pos rfl, show (0 : Int32) + 1 = 1 by decide, Int32.mul_one]
  · subst e
    rw [if_neg one_ne, show (1 : Int32) + 1 = 2 by decide, Int32.mul_comm]
def ahp (way : Int32) (w ch : Nat → Int32) (b e : Nat) : Bool := decide (w e * kfw way (ch b) < w b * kfw way (ch e)) || (decide (w b * kfw way (ch e) = w e * kfw way (ch b)) && decide (¬ w b ≤ w e))
theorem isAhead_s {way : Int32} (hway : way = 0 ∨ way = 1) {ch we : Nat → Int32} {b e : Nat} (hb : b < 6) (he : e < 6) : F_X0_isAhead (nI b) (nI e) way ch we = some (if ahp way we ch b e = true then 1 else 0) := by
  unfold F_X0_isAhead ahp
  rw [show (6 : Int32) = nI 6 from rfl, inside_n (by omega) (by omega), if_pos hb, Option.bind_some, if_neg one_ne, inside_n (by omega) (by omega), if_pos he, Option.bind_some, if_neg one_ne]
  simp only [gin_n hb (show 6 < 2 ^ 31 by omega), gin_n he (show 6 < 2 ^ 31 by omega), nI_clamp (show b < 2 ^ 31 by omega), nI_clamp (show e < 2 ^ 31 by omega), kfw_c hway]
  by_cases c1 : we e * kfw way (ch b) < we b * kfw way (ch e)
  · rw [if_pos c1, decide_eq_true c1]; rfl
  · rw [if_neg c1, decide_eq_false c1]
    by_cases c2 : we b * kfw way (ch e) = we e * kfw way (ch b)
    · rw [if_pos c2, decide_eq_true c2]
      by_cases c3 : we b ≤ we e
      · rw [if_pos c3, decide_eq_false (fun z => z c3)]; rfl
      · rw [if_neg c3, decide_eq_true c3]; rfl
    · rw [if_neg c2, decide_eq_false c2]; rfl
theorem choose_one {way : Int32} (hway : way = 0 ∨ way = 1) (hC : ∃ c, c < 6 ∧ C.testBit c = true) {i : Nat} (hi : i < 8) {we bw ch ch2 cho cho2 : Nat → Int32} (hwe : ∀ c, c < 6 → C.testBit c = true → we c = bw c) (hch : Alk 6 ch ch2) {x2 al M' cnt : Int32} {bl wr : Nat → Int32}
    (recC : Int32 → Int32 → (Nat → Int32) → (Nat → Int32) → Option (Int32 × (Nat → Int32) × (Nat → Int32))) (recM : Int32 → (Nat → Int32) → (Nat → Int32) → (Nat → Int32) → Option ((Nat → Int32) × (Nat → Int32) × (Nat → Int32))) :
    ∀ (f1 f2 b : Nat) (cur : Option Nat), 6 - b < f1 → 6 - b < f2 → b ≤ 6 → (cur = none → ∀ c, c < b → ¬ C.testBit c = true) → (∀ e, cur = some e → e < 6 ∧ C.testBit e = true) →
      ∃ e, e < 6 ∧ C.testBit e = true ∧ F_X0_queueUp_36 (nI C) way we recC f1 (nI i) (bI cur) (nI b) cnt ch cho = recC (nI (i + 1)) cnt (upd ch e (ch e + 1)) (upd cho i (nI e)) ∧
        F_X12_findChoosers_59 (nI C) x2 way al M' bl wr recM f2 (nI i) (bI cur) (nI b) bw ch2 cho2 = recM (nI (i + 1)) bw (upd ch2 e (ch2 e + 1)) (upd cho2 i (nI e)) := by
  intro f1
  induction f1 with
  | zero => intro f2 b cur h; omega
  | succ f1 ih =>
    intro f2 b cur g1 g2 hb hnone hsome
    obtain ⟨f2, rfl⟩ : ∃ g, f2 = g + 1 := ⟨f2 - 1, by omega⟩
    rw [F_X0_queueUp_36, F_X12_findChoosers_59]
    rcases Nat.lt_or_ge b 6 with hlt | hge
    · rw [if_neg (show ¬ (6 : Int32) ≤ nI b from nI_ge (b := 6) hlt (by omega)), if_neg (show ¬ (6 : Int32) ≤ nI b from nI_ge (b := 6) hlt (by omega)), has_s _ (show b < 32 by omega), isOf_s _ (show b < 32 by omega), Option.bind_some, Option.bind_some, bt_nI (by omega), nI_1]
      by_cases c : C.testBit b = true
      · rw [if_pos c, if_neg one_ne, if_neg one_ne]
        rcases cur with _ | e
        · rw [if_pos (show bI none = -1 from rfl), if_pos (show bI none = -1 from rfl)]
          exact ih f2 (b + 1) (some b) (by omega) (by omega) (by omega) (fun z => by cases z) (fun e he => by cases he; exact ⟨hlt, c⟩)
        · obtain ⟨he, hCe⟩ := hsome e rfl
          rw [show bI (some e) = nI e from rfl, if_neg (neg1_ne (by omega)), if_neg (neg1_ne (by omega)), isAhead_s hway hlt he, Option.bind_some]
          have hmod : (gin (nI b) 6 (if way = 0 then (gin (nI e) 6 (F_X12_findChoosers_126 (nI C) x2 way al M' bl wr recM (F_X12_findChoosers_59 (nI C) x2 way al M' bl wr recM f2) (nI i) (nI e) (nI b) ((ch2 (nI e).toNatClampNeg) + (1 : Int32)) (bw (nI b).toNatClampNeg) bw ch2 cho2)) else (gin (nI e) 6 (F_X12_findChoosers_126 (nI C) x2 way al M' bl wr recM (F_X12_findChoosers_59 (nI C) x2 way al M' bl wr recM f2) (nI i) (nI e) (nI b) (((2 : Int32) * (ch2 (nI e).toNatClampNeg)) + (1 : Int32)) (bw (nI b).toNatClampNeg) bw ch2 cho2)))) =
              if ahp way we ch b e = true then F_X12_findChoosers_59 (nI C) x2 way al M' bl wr recM f2 (nI i) (nI b) (nI (b + 1)) bw ch2 cho2 else F_X12_findChoosers_59 (nI C) x2 way al M' bl wr recM f2 (nI i) (nI e) (nI (b + 1)) bw ch2 cho2 := by
            unfold F_X12_findChoosers_126 F_X12_findChoosers_163
            simp only [gin_n hlt (show 6 < 2 ^ 31 by omega), gin_n he (show 6 < 2 ^ 31 by omega), nI_clamp (show b < 2 ^ 31 by omega), nI_clamp (show e < 2 ^ 31 by omega), nI_1]
            rw [← hwe b hlt c, ← hwe e he hCe, ← hch b hlt, ← hch e he]
            have body : ∀ (p q : Int32), p = kfw way (ch e) → q = kfw way (ch b) → (if we e * q < we b * p then F_X12_findChoosers_59 (nI C) x2 way al M' bl wr recM f2 (nI i) (nI b) (nI (b + 1)) bw ch2 cho2 else if we b * p = we e * q then (if we b ≤ we e then F_X12_findChoosers_59 (nI C) x2 way al M' bl wr recM f2 (nI i) (nI e) (nI (b + 1)) bw ch2 cho2 else F_X12_findChoosers_59 (nI C) x2 way al M' bl wr recM f2 (nI i) (nI b) (nI (b + 1)) bw ch2 cho2) else F_X12_findChoosers_59 (nI C) x2 way al M' bl wr recM f2 (nI i) (nI e) (nI (b + 1)) bw ch2 cho2) =
                if ahp way we ch b e = true then F_X12_findChoosers_59 (nI C) x2 way al M' bl wr recM f2 (nI i) (nI b) (nI (b + 1)) bw ch2 cho2 else F_X12_findChoosers_59 (nI C) x2 way al M' bl wr recM f2 (nI i) (nI e) (nI (b + 1)) bw ch2 cho2 := by
              intro p q hp hq
              subst hp; subst hq
              unfold ahp
              by_cases c1 : we e * kfw way (ch b) < we b * kfw way (ch e)
              · rw [if_pos c1, decide_eq_true c1]; rfl
              · rw [if_neg c1, decide_eq_false c1]
                by_cases c2 : we b * kfw way (ch e) = we e * kfw way (ch b)
                · rw [if_pos c2, decide_eq_true c2]
                  by_cases c3 : we b ≤ we e
                  · rw [if_pos c3, decide_eq_false (fun z => z c3)]; rfl
                  · rw [if_neg c3, decide_eq_true c3]; rfl
                · rw [if_neg c2, decide_eq_false c2]; rfl
            by_cases w0 : way = 0
            · rw [if_pos w0, if_pos w0]
              exact body _ _ (by unfold kfw; rw [if_pos w0]) (by unfold kfw; rw [if_pos w0])
            · rw [if_neg w0, if_neg w0]
              exact body _ _ (by unfold kfw; rw [if_neg w0]) (by unfold kfw; rw [if_neg w0])
          rw [hmod]
          by_cases a : ahp way we ch b e = true
          · rw [if_pos a, if_neg one_ne, if_pos a]
            exact ih f2 (b + 1) (some b) (by omega) (by omega) (by omega) (fun z => by cases z) (fun e he => by cases he; exact ⟨hlt, c⟩)
          · rw [if_neg a, if_pos rfl, if_neg a]
            exact ih f2 (b + 1) (some e) (by omega) (by omega) (by omega) (fun z => by cases z) (fun e2 he2 => by cases he2; exact ⟨he, hCe⟩)
      · rw [if_neg c, if_pos rfl, if_pos rfl]
        refine ih f2 (b + 1) cur (by omega) (by omega) (by omega) (fun z d hd => ?_) hsome
        by_cases q : d = b
        · rw [q]; exact c
        · exact hnone z d (by omega)
    · have eb : b = 6 := by omega
      subst eb
      rw [if_pos (show (6 : Int32) ≤ nI 6 by decide), if_pos (show (6 : Int32) ≤ nI 6 by decide)]
      rcases cur with _ | e
      · obtain ⟨c, c1, c2⟩ := hC
        exact absurd c2 (hnone rfl c c1)
      · obtain ⟨he, hCe⟩ := hsome e rfl
        refine ⟨e, he, hCe, ?_, ?_⟩
        · unfold F_X0_queueUp_80
          rw [show bI (some e) = nI e from rfl, gin_n hi (by omega), show (6 : Int32) = nI 6 from rfl, inside_n (by omega) (by omega), if_pos he, Option.bind_some, if_neg one_ne, gin_n he (by omega), gin_n he (by omega), nI_clamp (by omega), nI_clamp (by omega), nI_1]
        · unfold F_X12_findChoosers_207
          rw [show bI (some e) = nI e from rfl, gin_n hi (by omega), gin_n he (by omega), gin_n he (by omega), nI_clamp (by omega), nI_clamp (by omega), nI_1]
/-- the choosers' row on both sides -/
def Chs (C n : Nat) (cho cho2 : Nat → Int32) : Prop := ∀ j, j < n → ∃ e, e < 6 ∧ C.testBit e = true ∧ cho j = nI e ∧ cho2 j = nI e
theorem queue_both {way : Int32} (hway : way = 0 ∨ way = 1) (hC : ∃ c, c < 6 ∧ C.testBit c = true) {n : Nat} (hn : n ≤ 8) {we bw : Nat → Int32} (hwe : ∀ c, c < 6 → C.testBit c = true → we c = bw c) {al M' : Int32} {bl wr : Nat → Int32} :
    ∀ (f1 f2 i : Nat) (ch ch2 cho cho2 : Nat → Int32), n - i < f1 → n - i < f2 → i ≤ n → Alk 6 ch ch2 → Chs C i cho cho2 →
      ∃ ch' cho' ch2' cho2', F_X0_queueUp_21 (nI C) way we f1 (nI i) (nI n) ch cho = some (nI n, ch', cho') ∧ F_X12_findChoosers_47 (nI C) (nI n) way al M' bl wr f2 (nI i) bw ch2 cho2 = some (bw, ch2', cho2') ∧ Chs C n cho' cho2' := by
  intro f1
  induction f1 with
  | zero => intro f2 i ch ch2 cho cho2 h; omega
  | succ f1 ih =>
    intro f2 i ch ch2 cho cho2 g1 g2 hi hch hcs
    obtain ⟨f2, rfl⟩ : ∃ g, f2 = g + 1 := ⟨f2 - 1, by omega⟩
    rw [F_X0_queueUp_21, F_X12_findChoosers_47]
    rcases Nat.lt_or_ge i n with hlt | hge
    · obtain ⟨e, e1, e2, e3, e4⟩ := choose_one hway hC (show i < 8 by omega) (cho := cho) (cho2 := cho2) hwe hch (x2 := nI n) (al := al) (M' := M') (cnt := nI n) (bl := bl) (wr := wr) (F_X0_queueUp_21 (nI C) way we f1) (F_X12_findChoosers_47 (nI C) (nI n) way al M' bl wr f2) FU FU 0 none (by unfold FU; omega) (by unfold FU; omega) (by omega) (fun _ c hc => by omega) (fun e he => by cases he)
      rw [nI_0, show bI none = -1 from rfl] at e3 e4
      rw [if_neg (nI_ge hlt (by omega)), if_neg (nI_ge hlt (by omega)), e3, e4]
      refine ih f2 (i + 1) _ _ _ _ (by omega) (by omega) (by omega) (fun j hj => ?_) (fun j hj => ?_)
      · rw [hch e e1]
        by_cases q : j = e
        · subst q; rw [upd_self, upd_self]
        · rw [upd_ne _ _ q, upd_ne _ _ q]; exact hch j hj
      · by_cases q : j = i
        · subst q; exact ⟨e, e1, e2, upd_self _ _ _, upd_self _ _ _⟩
        · obtain ⟨e', q1, q2, q3, q4⟩ := hcs j (by omega)
          exact ⟨e', q1, q2, by rw [upd_ne _ _ q]; exact q3, by rw [upd_ne _ _ q]; exact q4⟩
    · have e : i = n := by omega
      subst e
      rw [if_pos (nI_le (Nat.le_refl _) (by omega)), if_pos (nI_le (Nat.le_refl _) (by omega))]
      exact ⟨ch, cho, ch2, cho2, rfl, rfl, hcs⟩
end WG
section WM
variable {mem day tld blo wei : Nat → Int32} {d k : Int32} {N M : Nat}
theorem choosers_3 (hM : M ≤ 10) (hn : N ≤ 200) (hmem : ∀ i, i < N → ∃ mi, mi < M ∧ mem i = nI mi) (hblo : ∀ i, i < N → blo i = -1 ∨ ∃ b, b < 6 ∧ blo i = nI b) {sin sal : Int32} {mo sw : Nat → Int32} (S : Seated mem day tld blo wei d k N sin sal mo sw) (x1 x2 x3 : Int32) (rb rw0 cho : Nat → Int32) :
    ∀ (fuel b : Nat) (bw ch : Nat → Int32), 6 - b < fuel → b ≤ 6 → (∀ c, c < b → bw c = bwt mo sw c ∧ ch c = 0) →
      ∃ bw' ch', F_X12_findChoosers_3 x1 x2 x3 sin (nI M) (fun j => if j < M then sB mem day tld blo d k N j else rb j) (fun j => if j < M then sW mem day tld blo wei d k N j else rw0 j) fuel (nI b) bw ch cho = F_X12_findChoosers_47 x1 x2 x3 sin (nI M) (fun j => if j < M then sB mem day tld blo d k N j else rb j) (fun j => if j < M then sW mem day tld blo wei d k N j else rw0 j) FU 0 bw' ch' cho ∧ ∀ c, c < 6 → bw' c = bwt mo sw c ∧ ch' c = 0 := by
  intro fuel
  induction fuel with
  | zero => intro b bw ch h; omega
  | succ n ih =>
    intro b bw ch h hb hS
    rw [F_X12_findChoosers_3]
    rcases Nat.lt_or_ge b 6 with hlt | hge
    · rw [if_neg (show ¬ (6 : Int32) ≤ nI b from nI_ge (b := 6) hlt (by omega)), gin_n hlt (by omega), one_nI b (by omega), membersOf_s hM hn hmem hblo S (2 ^ b) rb, Option.bind_some, weight_s hM S (fun i hi h => (mqB_in hM hmem S (2 ^ b) i hi h).2) rb rw0, Option.bind_some, gin_n hlt (by omega), nI_clamp (by omega), nI_1, mqB_one hlt]
      exact ih (b + 1) _ _ (by omega) (by omega) (fun c hc => by
        by_cases e : c = b
        · subst e; rw [upd_self, upd_self]; exact ⟨rfl, rfl⟩
        · rw [upd_ne _ _ e, upd_ne _ _ e]; exact hS c (by omega))
    · have e : b = 6 := by omega
      subst e
      rw [if_pos (show (6 : Int32) ≤ nI 6 by decide)]
      exact ⟨bw, ch, rfl, hS⟩
end WM
