/-! the reference reads any unit as the machine does -/
section UN2
variable {r wd : Nat → Int32} {T : Nat → Nat} {n : Nat}
theorem opOf_le : ∀ s, s < 14 → 7 ≤ s → s ≤ 10 → opOf s = 1 := by decide +kernel
theorem ofNum12 (h : TxtIs r T n) (hW : WordsIs wd) {i m : Nat} (hi : i ≤ n) (hm : m < 100) (rf rp : Int32) {tk va : Int32} (ht : TR (tS T n i) (tV T n i) tk va) :
    (tS T n i ≠ 6 ∧ F_X12_readNumber (nI m) (nI (tE T n i)) (nI (tP T n i)) rf rp (nI n) tk va r wd = some (-1, nI (tE T n i), nI (tP T n i), 1, nI (tP T n i), tk, va)) ∨
    (tS T n i = 6 ∧ m < tV T n i ∧ F_X12_readNumber (nI m) (nI (tE T n i)) (nI (tP T n i)) rf rp (nI n) tk va r wd = some (-1, nI (tE T n i), nI (tP T n i), 2, nI (tP T n i), tk, va)) ∨
    (tS T n i = 6 ∧ tV T n i ≤ m ∧ ∃ tk' va', TR (tS T n (tE T n i)) (tV T n (tE T n i)) tk' va' ∧ F_X12_readNumber (nI m) (nI (tE T n i)) (nI (tP T n i)) rf rp (nI n) tk va r wd = some (nI (tV T n i), nI (tE T n (tE T n i)), nI (tP T n (tE T n i)), rf, rp, tk', va')) := by
  have hok := tS_ok h hi
  have he := tE_le (T := T) hi
  unfold F_X12_readNumber
  rw [fails_n, fails_n, Option.bind_some, Option.bind_some]
  by_cases c : tS T n i = 6
  · have hv := tV_lt c
    rw [if_pos ((isNum_tr ht hok).mpr c), ht.2.1 c]
    by_cases d : tV T n i ≤ m
    · obtain ⟨tk', va', q1, q2⟩ := next_s h hW he.2 (nI (tP T n i)) tk (nI (tV T n i))
      rw [if_pos (nI_le d (by omega)), q1, Option.bind_some]
      exact Or.inr (Or.inr ⟨c, d, tk', va', q2, rfl⟩)
    · rw [if_neg (nI_ge (by omega) (by omega))]
      exact Or.inr (Or.inl ⟨c, by omega, by rw [← ht.2.1 c]⟩)
  · rw [if_neg (fun z => c ((isNum_tr ht hok).mp z))]
    exact Or.inl ⟨c, rfl⟩
theorem unit12 (h : TxtIs r T n) (hW : WordsIs wd) {i k nm cm op1 pa nu : Nat} {W : List Nat} {L : List (Nat × Nat)} {rf rp : Int32} {op arg op0 arg0 : Nat → Int32} (hi : i ≤ n) (hk : L.length + k ≤ i) (hnu : nu < 16384) (hd : DraftIs L op arg op0 arg0) {tk va : Int32} (ht : TR (tS T n i) (tV T n i) tk va) :
    Piece T n i k (1, nm, cm, op1, pa, nu, W, L) 4 cm 1 false rf rp op0 arg0 (F_X12_readUnit (nI (tE T n i)) (nI (tP T n i)) (nI L.length) rf rp (nI n) tk va arg op r wd) := by
  have hn := h.1
  have hok := tS_ok h hi
  have he := tE_le (T := T) hi
  have hp := tP_le (T := T) hi
  obtain ⟨f1, f2, f3, f4, f5, f6, f7⟩ := sg_facts _ (Nat.lt_succ_of_le hok.1) hok.2.1 hok.2.2
  obtain ⟨tk1, va1, n1, ht1⟩ := next_s h hW he.2 (nI (tP T n i)) tk va
  have tk2 : (tk = 2) ↔ sTk (tS T n i) = 2 := by rw [ht.1]; exact nI_eq (b := 2) (by omega) (by omega)
  have hok1 := tS_ok h he.2
  unfold F_X12_readUnit
  by_cases A : 7 ≤ tS T n i ∧ tS T n i ≤ 10
  · obtain ⟨A1, A2⟩ := f7.mpr A
    obtain ⟨g1, g2, g3⟩ := f2 A1
    have hlt := tE_lt (T := T) (n := n) (i := i) g1
    have hsv : sVal (tS T n i) = tS T n i - 7 := by
      have : ∀ s, s < 11 → 7 ≤ s → sVal s = s - 7 := by decide +kernel
      exact this _ (by omega) A.1
    have hva : va = nI (tS T n i - 7) := by rw [ht.2.2 g1 g2 g3, hsv]
    rw [if_pos (tk2.mpr A1), if_neg (show ¬ (3 : Int32) < va by rw [hva]; exact nI_nlt (b := tS T n i - 7) (a := 3) (by omega) (by omega))]
    unfold F_X12_readUnit_21
    rw [if_neg one_ne]
    unfold F_X12_readUnit_40
    rw [n1, Option.bind_some, if_neg one_ne]
    dsimp only
    by_cases B : 9 ≤ tS T n i
    · rw [if_pos (show (1 : Int32) < va by rw [hva]; exact nI_lt (a := 1) (by omega) (by omega))]
      refine unit_plain h hW (nm' := nm) (nu' := nu) (s := tS T n i) (v := nu) hi g1 hk hd (Or.inr ⟨rfl, opOf_le _ (by omega) A.1 A.2⟩) ?_ (by omega) A.2 ⟨hnu, fun z => by omega, fun z => by omega, fun z => by omega⟩ hnu ht1 (fun out hc => ?_)
      · rw [hva]
        unfold argOf
        rw [if_neg (by omega), if_pos A.2]
      · refine CR.next ?_ hc
        rw [step1]
        unfold sUnit
        rw [if_neg (by omega), if_pos (by omega), if_neg g3]
    · have s78 : tS T n i = 7 ∨ tS T n i = 8 := by omega
      have hstep : step (1, nm, cm, op1, pa, nu, W, L) (tS T n i) (tV T n i) = (0, 3, tS T n i, cm, op1, pa, nu, W, L) := by
        rw [step1]
        unfold sUnit
        rw [if_pos s78, if_neg g3]
      rw [if_neg (show ¬ (1 : Int32) < va by rw [hva]; exact nI_nlt (b := tS T n i - 7) (a := 1) (by omega) (by omega)), show (4 : Int32) = nI (sVal 5) from rfl, isWord_tr ht1 hok1 (by omega) rfl, Option.bind_some, ite10]
      by_cases C : tS T n (tE T n i) = 5
      · rw [if_pos C]
        have he1 := tE_le (T := T) he.2
        have hp1 := tP_le (T := T) he.2
        have hlt1 := tE_lt (T := T) (n := n) (i := tE T n i) (by omega)
        obtain ⟨tk3, va3, n2, ht2⟩ := next_s h hW he1.2 (nI (tP T n (tE T n i))) tk1 va1
        rw [n2, Option.bind_some]
        dsimp only
        have hchain : ∀ out, CR T n (tE T n (tE T n i)) (2, tS T n i, cm, op1, pa, nu, W, L) out → CR T n i (1, nm, cm, op1, pa, nu, W, L) out := by
          intro out hc
          refine CR.next hstep (CR.next ?_ hc)
          rw [C]
          exact step3
        rw [show (5 : Int32) = nI 5 from rfl]
        rcases ofNum12 h hW he1.2 (m := 5) (by omega) rf rp ht2 with ⟨c1, q⟩ | ⟨c1, c2, q⟩ | ⟨c1, c2, tk', va', t', q⟩
        · rw [q, Option.bind_some, if_pos rfl]
          refine ⟨_, _, _, _, _, _, _, _, _, _, rfl, hd.2, Or.inl ⟨rfl, 1, tP T n (tE T n (tE T n i)), rfl, rfl, by omega, by omega, hchain _ (CR.stop (k := 1) (S' := (8, tS T n i, cm, op1, pa, nu, W, L)) ?_ (by omega) (by omega))⟩⟩
          rw [step2]
          unfold sOwner
          rw [if_neg c1, if_neg c1]
        · rw [q, Option.bind_some, if_pos rfl]
          refine ⟨_, _, _, _, _, _, _, _, _, _, rfl, hd.2, Or.inl ⟨rfl, 2, tP T n (tE T n (tE T n i)), rfl, rfl, by omega, by omega, hchain _ (CR.stop (k := 2) (S' := (8, tS T n i, cm, op1, pa, tV T n (tE T n (tE T n i)), W, L)) ?_ (by omega) (by omega))⟩⟩
          rw [step2]
          unfold sOwner
          rw [if_pos c1, if_pos c1, if_neg (by omega), if_neg (by omega)]
        · have hlt2 := tE_lt (T := T) (n := n) (i := tE T n (tE T n i)) (by omega)
          have he2 := tE_le (T := T) he1.2
          have hp2 := tP_le (T := T) he1.2
          have hne : ¬ nI (tV T n (tE T n (tE T n i))) = (-1 : Int32) := fun z => nI_pos (n := tV T n (tE T n (tE T n i))) (by omega) (by rw [z]; decide)
          rw [q, Option.bind_some, if_neg hne]
          obtain ⟨arg', op', q1, q2⟩ := emits_n (s := if tS T n i = 7 then 12 else 13) (v := tV T n (tE T n (tE T n i))) (x1 := 2) (x2 := (6 : Int32) * va + nI (tV T n (tE T n (tE T n i)))) hd (by omega) (by
            rcases s78 with z | z
            · rw [if_pos z]; rfl
            · rw [if_neg (by omega)]; rfl) (by
            rw [hva, show (6 : Int32) = nI 6 from rfl, pk_mul, nI_add]
            rcases s78 with z | z
            · rw [if_pos z, z]; unfold argOf; rw [if_pos (by omega)]; congr 1; omega
            · rw [if_neg (by omega), z]; unfold argOf; rw [if_neg (by omega), if_neg (by omega), if_pos rfl])
          dsimp only
          rw [q1, Option.bind_some]
          refine ⟨_, _, _, _, _, _, _, _, _, _, rfl, q2.2, Or.inr ⟨rfl, rfl, rfl, tE T n (tE T n (tE T n i)), tS T n i, tV T n (tE T n (tE T n i)), [((if tS T n i = 7 then 12 else 13), tV T n (tE T n (tE T n i)))], by omega, he2.2, ⟨rfl, rfl, t'⟩, rfl, q2, by dsimp only; rw [List.length_append, List.length_singleton]; omega, by omega, ?_, fun out hc => hchain _ (CR.next ?_ hc)⟩⟩
          · refine ty_unit ?_ ?_ ?_ ⟨by omega, fun z => ?_, fun z => ?_, fun _ => by omega⟩
            all_goals (rcases s78 with w | w)
            all_goals first | rw [if_pos w]; omega | rw [if_neg (by omega)]; omega | rw [if_pos w] at z; omega | rw [if_neg (by omega)] at z; omega
          · rw [step2]
            unfold sOwner
            rw [if_pos c1, if_pos c1, if_neg (by omega), if_pos (by omega)]
      · rw [if_neg C]
        refine unit_plain h hW (nm' := tS T n i) (nu' := nu) (s := tS T n i) (v := 0) hi g1 hk hd (Or.inr ⟨rfl, opOf_le _ (by omega) A.1 A.2⟩) ?_ (by omega) A.2 ⟨by omega, fun z => by omega, fun z => by omega, fun z => by omega⟩ hnu ht1 (fun out hc => ?_)
        · rw [hva]
          unfold argOf
          rw [if_neg (by omega), if_pos A.2]
        · exact CR.next hstep (CR.same (step34 C) hc)
  · by_cases B : tS T n i = 6
    · have hv := tV_lt B
      have g1 : tS T n i ≠ 0 := by omega
      rw [if_neg (fun z => by have := tk2.mp z; have := f1.mpr B; omega)]
      unfold F_X12_readUnit_21
      rw [if_pos rfl, if_pos ((isNum_tr ht hok).mpr B)]
      unfold F_X12_readUnit_40
      rw [n1, Option.bind_some, if_pos rfl, ht.2.1 B]
      refine unit_plain h hW (nm' := nm) (nu' := tV T n i) (s := 6) (v := tV T n i) hi g1 hk hd (Or.inl ⟨rfl, rfl⟩) rfl (by omega) (by omega) ⟨by omega, fun _ => hv, fun z => by omega, fun z => by omega⟩ (by omega) ht1 (fun out hc => ?_)
      refine CR.next ?_ hc
      rw [step1, B]
      unfold sUnit
      rw [if_neg (by omega), if_pos (by omega), if_pos rfl]
    · have key : F_X12_readUnit_21 (nI n) r wd 0 (nI (tE T n i)) (nI (tP T n i)) (nI L.length) rf rp tk va arg op = some (-1, nI (tE T n i), nI (tP T n i), nI L.length, 1, nI (tP T n i), tk, va, arg, op) := by
        unfold F_X12_readUnit_21
        rw [if_pos rfl, if_neg (fun z => B ((isNum_tr ht hok).mp z)), fails_n, Option.bind_some]
      have out : Piece T n i k (1, nm, cm, op1, pa, nu, W, L) 4 cm 1 false rf rp op0 arg0 (F_X12_readUnit_21 (nI n) r wd 0 (nI (tE T n i)) (nI (tP T n i)) (nI L.length) rf rp tk va arg op) := by
        rw [key]
        refine ⟨_, _, _, _, _, _, _, _, _, _, rfl, hd.2, Or.inl ⟨rfl, 1, tP T n i, rfl, rfl, by omega, by omega, CR.stop (k := 1) (S' := (8, nm, cm, op1, pa, nu, W, L)) ?_ (by omega) (by omega)⟩⟩
        rw [step1]
        unfold sUnit
        rw [if_neg (by omega), if_neg (by omega), if_neg B]
      by_cases D : sTk (tS T n i) = 2
      · obtain ⟨g1, g2, g3⟩ := f2 D
        rw [if_pos (tk2.mpr D), if_pos (show (3 : Int32) < va by
          rw [ht.2.2 g1 g2 g3]
          exact nI_lt (a := 3) (by
            by_cases w : sVal (tS T n i) ≤ 3
            · exact absurd (f7.mp ⟨D, w⟩) A
            · omega) (by omega))]
        exact out
      · rw [if_neg (fun z => D (tk2.mp z))]
        exact out
end UN2
