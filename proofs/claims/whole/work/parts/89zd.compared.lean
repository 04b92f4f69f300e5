/-! comparisons, and has -/
theorem tStep_cmp {s : Nat} (h1 : 18 ≤ s) (h2 : s ≤ 20) (T0 : List Bool) : tStep s (false :: false :: T0) = some (true :: T0) := by
  have : s = 18 ∨ s = 19 ∨ s = 20 := by omega
  rcases this with z | z | z <;> subst z <;> rfl
/-- a whole clause read by both, from the machine's state 0 (or 7) on; behind it the machine's state 5 -/
def PieceA (T : Nat → Nat) (n i k : Nat) (S : PS) (d : Nat) (rf rp : Int32) (op0 arg0 : Nat → Int32) (x : Option (Int32 × Int32 × Int32 × Int32 × Int32 × Int32 × Int32 × Int32 × (Nat → Int32) × (Nat → Int32))) : Prop :=
  ∃ ret at1 fr many rf' rp' tk va arg op, x = some (ret, at1, fr, many, rf', rp', tk, va, arg, op) ∧ Keeps op arg op0 arg0 ∧
    ((ret = -1 ∧ ∃ kf pf, rf' = nI kf ∧ rp' = nI pf ∧ 1 ≤ kf ∧ kf ≤ 3 ∧ CR T n i S (kf, pf, [])) ∨
     (ret = 0 ∧ rf' = rf ∧ rp' = rp ∧ ∃ i' nm' cm' nu' M, i < i' ∧ i' ≤ n ∧ AtTok T n i' at1 fr tk va ∧ many = nI (S.2.2.2.2.2.2.2 ++ M).length ∧ DraftIs (S.2.2.2.2.2.2.2 ++ M) op arg op0 arg0 ∧ (S.2.2.2.2.2.2.2 ++ M).length + k ≤ i' ∧ nu' < 16384 ∧ cm' ≤ 1 ∧ TyM true d M ∧
       ∀ out, CR T n i' (5, nm', cm', S.2.2.2.1, S.2.2.2.2.1, nu', S.2.2.2.2.2.2.1, S.2.2.2.2.2.2.2 ++ M) out → CR T n i S out))
theorem step07 {st s v nm cm op pa nu : Nat} {W : List Nat} {L : List (Nat × Nat)} (hst : st = 0 ∨ (st = 7 ∧ s ≠ 0)) : step (st, nm, cm, op, pa, nu, W, L) s v = sClause s nm cm op pa (if s = 6 then v else nu) W L := by
  unfold step sAct3 sAct4
  dsimp only
  rw [if_neg (show ¬ (st = 3 ∧ s ≠ 5) from fun z => by have := z.1; omega), if_neg (show ¬ (st = 4 ∧ cm ≠ 0 ∧ ¬ dSm s) from fun z => by have := z.1; omega)]
  unfold sAct
  rcases hst with z | ⟨z, z2⟩
  · rw [if_pos z]
  · rw [if_neg (by omega), if_neg (by omega), if_neg (by omega), if_neg (by omega), if_neg (by omega), if_neg (by omega), if_neg (by omega), if_neg z2]
section CM
variable {r wd : Nat → Int32} {T : Nat → Nat} {n : Nat}
theorem compared12 (h : TxtIs r T n) (hW : WordsIs wd) {i k st nm cm op1 pa nu : Nat} {W : List Nat} {L : List (Nat × Nat)} {rf rp : Int32} {op arg op0 arg0 : Nat → Int32} (hst : st = 0 ∨ (st = 7 ∧ tS T n i ≠ 0)) (h3 : rk (W.headD 0) ≤ 3) (hn14 : tS T n i ≠ 14) (hn3 : tS T n i ≠ 3) (hi : i ≤ n) (hk : L.length + k ≤ i) (hnu : nu < 16384) (hcm : cm ≤ 1) (hd : DraftIs L op arg op0 arg0) {tk va : Int32} (ht : TR (tS T n i) (tV T n i) tk va) :
    PieceA T n i k (st, nm, cm, op1, pa, nu, W, L) 4 rf rp op0 arg0 (F_X12_readCompared (nI (tE T n i)) (nI (tP T n i)) (nI L.length) rf rp (nI n) tk va arg op r wd) := by
  have hn := h.1
  have hok := tS_ok h hi
  have he := tE_le (T := T) hi
  have hp := tP_le (T := T) hi
  unfold F_X12_readCompared
  rw [show (5 : Int32) = nI (sVal 11) from rfl, isWord_tr ht hok (w := 11) (by omega) rfl, Option.bind_some, ite10]
  by_cases c : tS T n i = 11
  · rw [if_pos c]
    have hlt := tE_lt (T := T) (n := n) (i := i) (by omega)
    obtain ⟨tk1, va1, n1, ht1⟩ := next_s h hW he.2 (nI (tP T n i)) tk va
    rw [n1, Option.bind_some]
    dsimp only
    have hstep : step (st, nm, cm, op1, pa, nu, W, L) (tS T n i) (tV T n i) = (0, 2, 11, cm, op1, pa, nu, W, L) := by
      rw [step07 hst]
      unfold sClause
      rw [if_neg (by omega), if_pos c, if_neg (by omega)]
    rw [show (9 : Int32) = nI 9 from rfl]
    have he1 := tE_le (T := T) he.2
    have hp1 := tP_le (T := T) he.2
    rcases ofNum12 h hW he.2 (m := 9) (by omega) rf rp ht1 with ⟨c1, q⟩ | ⟨c1, c2, q⟩ | ⟨c1, c2, tk', va', t', q⟩
    · rw [q, Option.bind_some, if_pos rfl]
      refine ⟨_, _, _, _, _, _, _, _, _, _, rfl, hd.2, Or.inl ⟨rfl, 1, tP T n (tE T n i), rfl, rfl, by omega, by omega, CR.next hstep (CR.stop (k := 1) (S' := (8, 11, cm, op1, pa, nu, W, L)) ?_ (by omega) (by omega))⟩⟩
      rw [step2]
      unfold sOwner
      rw [if_neg c1, if_neg c1]
    · rw [q, Option.bind_some, if_pos rfl]
      refine ⟨_, _, _, _, _, _, _, _, _, _, rfl, hd.2, Or.inl ⟨rfl, 2, tP T n (tE T n i), rfl, rfl, by omega, by omega, CR.next hstep (CR.stop (k := 2) (S' := (8, 11, cm, op1, pa, tV T n (tE T n i), W, L)) ?_ (by omega) (by omega))⟩⟩
      rw [step2]
      unfold sOwner
      rw [if_pos c1, if_pos c1, if_pos rfl, if_neg (by omega)]
    · have hlt1 := tE_lt (T := T) (n := n) (i := tE T n i) (by omega)
      have hne : ¬ nI (tV T n (tE T n i)) = (-1 : Int32) := fun z => nI_pos (n := tV T n (tE T n i)) (by omega) (by rw [z]; decide)
      rw [q, Option.bind_some, if_neg hne]
      obtain ⟨arg', op', q1, q2⟩ := emits_n (s := 11) (v := tV T n (tE T n i)) (x1 := 3) (x2 := nI (tV T n (tE T n i))) hd (by omega) rfl rfl
      dsimp only
      rw [q1, Option.bind_some]
      refine ⟨_, _, _, _, _, _, _, _, _, _, rfl, q2.2, Or.inr ⟨rfl, rfl, rfl, tE T n (tE T n i), 11, cm, tV T n (tE T n i), [(11, tV T n (tE T n i))], by omega, he1.2, ⟨rfl, rfl, t'⟩, rfl, q2, by dsimp only; rw [List.length_append, List.length_singleton]; omega, by omega, hcm, ⟨fun c hc => ?_, fun T0 hT => ?_⟩, fun out hc => CR.next hstep (CR.next ?_ hc)⟩⟩
      · rcases List.mem_singleton.mp hc with rfl
        exact ⟨by dsimp only; omega, fun z => by dsimp only at z; omega, fun _ => by dsimp only; omega, fun z => by dsimp only at z; omega⟩
      · show (tStep 11 T0).bind (tRun []) = _
        unfold tStep
        rw [if_pos rfl, if_pos (by omega)]
        rfl
      · rw [step2]
        unfold sOwner
        rw [if_pos c1, if_pos c1, if_pos rfl, if_pos (by omega)]
  · rw [if_neg c]
    have hsame : ∀ out, CR T n i (1, nm, 0, op1, pa, nu, W, L) out → CR T n i (st, nm, cm, op1, pa, nu, W, L) out := by
      intro out hc
      refine CR.same ?_ hc
      rw [step07 hst, step1]
      unfold sClause
      rw [if_neg (by omega), if_neg c]
    obtain ⟨ret, at2, fr2, many2, rf2, rp2, tk2, va2, arg2, op2, u0, u1, u2⟩ := sum12 h hW (k := k) (nm := nm) (cm := 0) (op1 := op1) (pa := pa) (nu := nu) (W := W) (L := L) (rf := rf) (rp := rp) (op := op) (arg := arg) (by omega) hi hk hnu hd ht
    rw [u0, Option.bind_some]
    dsimp only
    rcases u2 with ⟨e, kf, pf, b1, b2, b3, b4, b5⟩ | ⟨e, b1, b2, i', nm', nu', M, b3, b4, b5, b6, b7, b8, b9, b10, bq, b11⟩
    · rw [if_pos e]
      exact ⟨_, _, _, _, _, _, _, _, _, _, rfl, u1, Or.inl ⟨rfl, kf, pf, b1, b2, b3, b4, hsame _ b5⟩⟩
    · dsimp only at b6 b7 b8 b11
      obtain ⟨x1, x2, x3⟩ := b5
      have hok1 := tS_ok h b4
      rw [if_neg (by rw [e]; decide), show (60 : Int32) = nI (sVal 18) from rfl, isSign_tr x3 hok1 (w := 18) (by omega) rfl, Option.bind_some, ite10, show (61 : Int32) = nI (sVal 19) from rfl, isSign_tr x3 hok1 (w := 19) (by omega) rfl, Option.bind_some, ite10, show (62 : Int32) = nI (sVal 20) from rfl, isSign_tr x3 hok1 (w := 20) (by omega) rfl, Option.bind_some, ite10, fails_n, Option.bind_some, b6, x1, x2, b1, b2]
      by_cases g : dCp (tS T n i')
      · have he1 := tE_le (T := T) b4
        have hp1 := tP_le (T := T) b4
        have g18 : 18 ≤ tS T n i' ∧ tS T n i' ≤ 20 := by rcases g with g | g | g <;> omega
        have hlt1 := tE_lt (T := T) (n := n) (i := i') (by omega)
        obtain ⟨tk3, va3, n2, ht2⟩ := next_s h hW he1.2 (nI (tP T n i')) tk2 va2
        have hrk : rk (tS T n i') = 4 := by rcases g with g | g | g <;> rw [g] <;> rfl
        have hstep : step (4, nm', 0, op1, pa, nu', W, L ++ M) (tS T n i') (tV T n i') = (0, 1, nm', 1, op1, pa, nu', tS T n i' :: W, L ++ M) := by
          rw [step4, if_neg (fun z => z.1 rfl)]
          unfold sBU
          rw [if_neg bq, if_pos g]
          unfold pushS
          rw [hrk, rel_stay (by omega), if_neg (by omega)]
        have go : ∀ s0, s0 = nI (opOf (tS T n i')) → PieceA T n i k (st, nm, cm, op1, pa, nu, W, L) 4 rf rp op0 arg0 (F_X12_readCompared_107 (nI n) r wd s0 (nI (tE T n i')) (nI (tP T n i')) (nI (L ++ M).length) rf rp tk2 va2 arg2 op2) := by
          intro s0 hs0
          unfold F_X12_readCompared_107
          rw [n2, Option.bind_some]
          dsimp only
          obtain ⟨ret, at4, fr4, many4, rf4, rp4, tk4, va4, arg4, op4, u0', u1', u2'⟩ := sum12 h hW (k := k + 1) (nm := nm') (cm := 1) (op1 := op1) (pa := pa) (nu := nu') (W := tS T n i' :: W) (L := L ++ M) (rf := rf) (rp := rp) (op := op2) (arg := arg2) (by rw [List.headD_cons, hrk]; omega) he1.2 (by omega) b9 b7 ht2
          rw [u0', Option.bind_some]
          dsimp only
          rcases u2' with ⟨e', kf, pf, c1, c2, c3, c4, c5⟩ | ⟨e', c1, c2, i4, nm4, nu4, M4, c3, c4, c5, c6, c7, c8, c9, c10, cq, c11⟩
          · rw [if_pos e']
            exact ⟨_, _, _, _, _, _, _, _, _, _, rfl, u1', Or.inl ⟨rfl, kf, pf, c1, c2, c3, c4, hsame _ (b11 _ (CR.next hstep c5))⟩⟩
          · dsimp only at c6 c7 c8 c11
            rw [if_neg (by rw [e']; decide), c6]
            obtain ⟨arg5, op5, q1, q2⟩ := emits_n (s := tS T n i') (v := 0) (x1 := s0) (x2 := 0) c7 (by omega) hs0 (by rcases g with g | g | g <;> rw [g] <;> rfl)
            rw [q1, Option.bind_some]
            obtain ⟨y1, y2, y3⟩ := c5
            refine ⟨_, _, _, _, _, _, _, _, _, _, rfl, q2.2, Or.inr ⟨rfl, c1, c2, i4, nm4, 1, nu4, M ++ M4 ++ [(tS T n i', 0)], by omega, c4, ⟨y1, y2, y3⟩, ?_, ?_, ?_, c9, by omega, ⟨fun c hc => ?_, fun T0 hT => ?_⟩, fun out hc => hsame _ (b11 _ (CR.next hstep (c11 _ (CR.sameE (eag4 (by omega) (by omega) (fun z => absurd z cq)) (CR.same (step45 (by omega) cq) ?_)))))⟩⟩
            · dsimp only; simp only [List.append_assoc]
            · have := q2; simp only [List.append_assoc] at this ⊢; exact this
            · have := c8; simp only [List.append_assoc, List.length_append, List.length_singleton] at this ⊢; omega
            · rcases List.mem_append.mp hc with hc | hc
              · rcases List.mem_append.mp hc with hc | hc
                · exact b10.1 c hc
                · exact c10.1 c hc
              · rcases List.mem_singleton.mp hc with rfl
                exact ⟨by dsimp only; omega, fun z => by dsimp only at z; omega, fun z => by dsimp only at z; omega, fun z => by dsimp only at z; omega⟩
            · rw [tRun_app, tRun_app, b10.2 T0 (by omega), Option.bind_some, c10.2 (false :: T0) (by rw [List.length_cons]; omega), Option.bind_some]
              show (tStep (tS T n i') (false :: false :: T0)).bind (tRun []) = _
              rw [tStep_cmp g18.1 g18.2]
              rfl
            · have := hc; simp only [List.append_assoc] at this ⊢; exact this
        have hva : va2 = nI (sVal (tS T n i')) := x3.2.2 (by omega) (by omega) (by omega)
        have all77 : PieceA T n i k (st, nm, cm, op1, pa, nu, W, L) 4 rf rp op0 arg0 (F_X12_readCompared_77 (nI n) r wd (nI (tE T n i')) (nI (tP T n i')) (nI (L ++ M).length) rf rp tk2 va2 arg2 op2) := by
          unfold F_X12_readCompared_77
          rcases g with g | g | g
          · rw [if_pos (show va2 = (60 : Int32) by rw [hva, g]; rfl)]
            exact go 7 (by rw [g]; rfl)
          · rw [if_neg (show ¬ va2 = (60 : Int32) by rw [hva, g]; decide), if_pos (show va2 = (61 : Int32) by rw [hva, g]; rfl)]
            exact go 8 (by rw [g]; rfl)
          · rw [if_neg (show ¬ va2 = (60 : Int32) by rw [hva, g]; decide), if_neg (show ¬ va2 = (61 : Int32) by rw [hva, g]; decide)]
            exact go 9 (by rw [g]; rfl)
        rcases g with g | g | g
        · rw [if_pos g]; exact all77
        · rw [if_neg (by omega), if_pos g]; exact all77
        · rw [if_neg (by omega), if_neg (by omega), if_pos g]; exact all77
      · rw [if_neg (fun z => g (Or.inl z)), if_neg (fun z => g (Or.inr (Or.inl z))), if_neg (fun z => g (Or.inr (Or.inr z)))]
        refine ⟨_, _, _, _, _, _, _, _, _, _, rfl, u1, Or.inl ⟨rfl, 1, tP T n i', rfl, rfl, by omega, by omega, hsame _ (b11 _ (CR.stop (k := 1) (S' := (8, nm', 0, op1, pa, (if tS T n i' = 6 then tV T n i' else nu'), W, L ++ M)) ?_ (by omega) (by omega)))⟩⟩
        rw [step4, if_neg (fun z => z.1 rfl)]
        unfold sBU
        rw [if_neg bq, if_neg g]
end CM
