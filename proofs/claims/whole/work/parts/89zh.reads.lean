/-! the reference reads a whole text as the machine does -/
section RD
variable {r wd : Nat → Int32} {T : Nat → Nat} {n : Nat}
theorem step7_0 {v nm cm op pa nu : Nat} {W : List Nat} {L : List (Nat × Nat)} : step (7, nm, cm, op, pa, nu, W, L) 0 v = (4, 8, nm, cm, op, pa, nu, W, L) := by
  unfold step sAct3 sAct4
  dsimp only
  rw [if_neg (show ¬ ((7 : Nat) = 3 ∧ (0 : Nat) ≠ 5) from fun z => absurd z.1 (by omega)), if_neg (show ¬ ((7 : Nat) = 4 ∧ cm ≠ 0 ∧ ¬ dSm 0) from fun z => absurd z.1 (by omega))]
  rfl
theorem step6 {s v nm cm op pa nu : Nat} {W : List Nat} {L : List (Nat × Nat)} : step (6, nm, cm, op, pa, nu, W, L) s v = if s = 0 then (4, 8, nm, cm, op, pa, (if s = 6 then v else nu), W, L) else (1, 8, nm, cm, op, pa, (if s = 6 then v else nu), W, L) := by
  unfold step sAct3 sAct4
  dsimp only
  rw [if_neg (show ¬ ((6 : Nat) = 3 ∧ s ≠ 5) from fun z => absurd z.1 (by omega)), if_neg (show ¬ ((6 : Nat) = 4 ∧ cm ≠ 0 ∧ ¬ dSm s) from fun z => absurd z.1 (by omega))]
  rfl
theorem isEnd_tr {s v : Nat} {tk va : Int32} (h : TR s v tk va) (hs : sOk s) : (tk = 0) ↔ s = 0 := by
  obtain ⟨f1, f2, f3, f4, f5, f6, f7⟩ := sg_facts s (Nat.lt_succ_of_le hs.1) hs.2.1 hs.2.2
  rw [h.1, show (0 : Int32) = nI 0 from rfl, nI_eq (by omega) (by omega)]
  exact f4
theorem reads12 (h : TxtIs r T n) (hW : WordsIs wd) {nm nu : Nat} (hnu : nu < 16384) (at0 fr many opn pes rf rp tk va : Int32) (arg op pe : Nat → Int32) :
    ∃ ret at1 fr1 many1 opn1 pes1 rf1 rp1 tk1 va1 arg1 op1 pe1, F_X12_reads at0 fr many opn pes rf rp (nI n) tk va arg op pe r wd = some (ret, at1, fr1, many1, opn1, pes1, rf1, rp1, tk1, va1, arg1, op1, pe1) ∧ Keeps op1 arg1 op arg ∧
      ((ret = -1 ∧ ∃ kf pf, rf1 = nI kf ∧ rp1 = nI pf ∧ 1 ≤ kf ∧ kf ≤ 3 ∧ CR T n 0 (7, nm, 0, 0, 0, nu, [], []) (kf, pf, [])) ∨
       (ret = 0 ∧ ∃ L, many1 = nI L.length ∧ DraftIs L op1 arg1 op arg ∧ L.length ≤ 400 ∧ (L = [] ∨ Kinds L 1) ∧ CR T n 0 (7, nm, 0, 0, 0, nu, [], []) (0, 0, L))) := by
  have hn := h.1
  have hok := tS_ok h (Nat.zero_le n)
  have he := tE_le (T := T) (n := n) (i := 0) (Nat.zero_le n)
  have hd0 : DraftIs [] op arg op arg := ⟨fun j c hj => by simp at hj, fun j _ => ⟨rfl, rfl⟩⟩
  obtain ⟨tk2, va2, n1, ht⟩ := next_s h hW (Nat.zero_le n) fr tk va
  unfold F_X12_reads
  rw [show F_X12_next 0 fr (nI n) tk va r wd = _ from n1, Option.bind_some]
  dsimp only
  by_cases c : tS T n 0 = 0
  · rw [if_pos ((isEnd_tr ht hok).mpr c)]
    refine ⟨_, _, _, _, _, _, _, _, _, _, _, _, _, rfl, hd0.2, Or.inr ⟨rfl, [], rfl, hd0, by decide, Or.inl rfl, ?_⟩⟩
    exact CR.over (S' := (8, nm, 0, 0, 0, nu, [], [])) (by rw [c]; exact step7_0)
  · rw [if_neg (fun z => c ((isEnd_tr ht hok).mp z))]
    unfold F_X12_readAny
    obtain ⟨ret, at3, fr3, many3, opn3, pes3, rf3, rp3, tk3, va3, arg3, op3, pe3, u0, u1, u2⟩ := any_loop h hW (rf := rf) (rp := rp) (op0 := op) (arg0 := arg) (n + 1) 0 FU 1 7 nm 0 0 0 nu [] [] op arg pe tk2 va2 (by omega) (Nat.zero_le n) (by show _ < 100000; omega) trivial (fun x hx => (List.not_mem_nil hx).elim) rfl (by omega) rfl (by decide) hnu (by omega) (Or.inl ⟨rfl, ⟨fun c hc => (List.not_mem_nil hc).elim, rfl⟩, Or.inr ⟨rfl, c⟩⟩) trivial hd0 ht
    rw [show F_X12_readAny_9 (nI n) r wd FU 0 1 (nI (tE T n 0)) (nI (tP T n 0)) 0 0 0 rf rp tk2 va2 arg op pe = _ from u0, Option.bind_some]
    dsimp only
    rcases u2 with ⟨e, kf, pf, b1, b2, b3, b4, b5⟩ | ⟨e, b1, b2, i', nm', cm', op', nu', L', b3, b4, b5, b6, b7, b8, b9, b10, b11⟩
    · rw [if_pos e]
      exact ⟨_, _, _, _, _, _, _, _, _, _, _, _, _, rfl, u1, Or.inl ⟨rfl, kf, pf, b1, b2, b3, b4, b5⟩⟩
    · obtain ⟨x1, x2, x3⟩ := b5
      have hok1 := tS_ok h b4
      rw [if_neg (by rw [e]; decide), show (59 : Int32) = nI (sVal 2) from rfl, isSign_tr x3 hok1 (w := 2) (by omega) rfl, Option.bind_some, ite10]
      by_cases d : tS T n i' = 2
      · rw [if_pos d]
        have he1 := tE_le (T := T) b4
        have hok2 := tS_ok h he1.2
        obtain ⟨tk4, va4, n2, ht2⟩ := next_s h hW he1.2 fr3 tk3 va3
        rw [x1, n2, Option.bind_some]
        dsimp only
        by_cases g : tS T n (tE T n i') = 0
        · rw [if_pos ((isEnd_tr ht2 hok2).mpr g)]
          refine ⟨_, _, _, _, _, _, _, _, _, _, _, _, _, rfl, u1, Or.inr ⟨rfl, L', b6, b7, by omega, Or.inr b9, b11 d _ ?_⟩⟩
          exact CR.over (S' := (8, nm', cm', op', 0, nu', [], L')) (by rw [step6, g, if_pos rfl, if_neg (by omega)])
        · rw [if_neg (fun z => g ((isEnd_tr ht2 hok2).mp z)), fails_n, Option.bind_some]
          refine ⟨_, _, _, _, _, _, _, _, _, _, _, _, _, rfl, u1, Or.inl ⟨rfl, 1, tP T n (tE T n i'), rfl, rfl, by omega, by omega, b11 d _ ?_⟩⟩
          exact CR.stop (k := 1) (S' := (8, nm', cm', op', 0, (if tS T n (tE T n i') = 6 then tV T n (tE T n i') else nu'), [], L')) (by rw [step6, if_neg g]) (by omega) (by omega)
      · rw [if_neg d, fails_n, Option.bind_some]
        exact ⟨_, _, _, _, _, _, _, _, _, _, _, _, _, rfl, u1, Or.inl ⟨rfl, 1, tP T n i', rfl, x2, by omega, by omega, b10 d⟩⟩
end RD
