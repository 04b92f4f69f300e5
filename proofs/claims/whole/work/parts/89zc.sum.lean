/-! sums -/
section SU
variable {r wd : Nat → Int32} {T : Nat → Nat} {n : Nat}
theorem product12 (h : TxtIs r T n) (hW : WordsIs wd) {i k nm cm op1 pa nu : Nat} {W : List Nat} {L : List (Nat × Nat)} {rf rp : Int32} {op arg op0 arg0 : Nat → Int32} (h6 : rk (W.headD 0) < 6) (hi : i ≤ n) (hk : L.length + k ≤ i) (hnu : nu < 16384) (hd : DraftIs L op arg op0 arg0) {tk va : Int32} (ht : TR (tS T n i) (tV T n i) tk va) :
    PieceQ T n i k (1, nm, cm, op1, pa, nu, W, L) 2 (fun s => s ≠ 17) rf rp op0 arg0 (F_X12_readProduct (nI (tE T n i)) (nI (tP T n i)) (nI L.length) rf rp (nI n) tk va arg op r wd) := by
  have hn := h.1
  unfold F_X12_readProduct
  obtain ⟨ret, at2, fr2, many2, rf2, rp2, tk2, va2, arg2, op2, u0, u1, u2⟩ := unit12 h hW (k := k) (nm := nm) (cm := cm) (op1 := op1) (pa := pa) (nu := nu) (W := W) (L := L) (rf := rf) (rp := rp) (op := op) (arg := arg) hi hk hnu hd ht
  rw [u0, Option.bind_some]
  dsimp only
  rcases u2 with ⟨e, kf, pf, b1, b2, b3, b4, b5⟩ | ⟨e, b1, b2, i', nm', nu', M, b3, b4, b5, b6, b7, b8, b9, b10, b11⟩
  · rw [if_pos e]
    exact ⟨_, _, _, _, _, _, _, _, _, _, rfl, u1, Or.inl ⟨rfl, kf, pf, b1, b2, b3, b4, b5⟩⟩
  · dsimp only at b6 b7 b8 b11
    obtain ⟨x1, x2, x3⟩ := b5
    rw [if_neg (by rw [e]; decide), b6, x1, x2, b1, b2]
    obtain ⟨ret, at4, fr4, many4, rf4, rp4, tk4, va4, arg4, op4, u0', u1', u2'⟩ := prod_loop h hW (k := k) (cm := cm) (op1 := op1) (pa := pa) (rf := rf) (rp := rp) h6 (n - i' + 1) i' FU nm' nu' (L ++ M) op2 arg2 tk2 va2 (by omega) b4 (by show _ < 100000; omega) b8 b9 b7 x3
    refine ⟨ret, at4, fr4, many4, rf4, rp4, tk4, va4, arg4, op4, u0', u1', ?_⟩
    rcases u2' with ⟨e', kf, pf, c1, c2, c3, c4, c5⟩ | ⟨e', c1, c2, i4, nm4, nu4, M4, c3, c4, c5, c6, c7, c8, c9, c10, c11, c12⟩
    · exact Or.inl ⟨e', kf, pf, c1, c2, c3, c4, b11 _ c5⟩
    · refine Or.inr ⟨e', c1, c2, i4, nm4, nu4, M ++ M4, by omega, c4, c5, ?_, ?_, ?_, c9, tyM_C b10 c10, c11, fun out hc => b11 out (c12 out ?_)⟩
      · rw [c6]; simp only [List.append_assoc]
      · have := c7; simp only [List.append_assoc] at this ⊢; exact this
      · have := c8; simp only [List.append_assoc] at this ⊢; exact this
      · have := hc; simp only [List.append_assoc] at this ⊢; exact this
theorem sum_loop (h : TxtIs r T n) (hW : WordsIs wd) {k cm op1 pa : Nat} {W : List Nat} {rf rp : Int32} {op0 arg0 : Nat → Int32} (h5 : rk (W.headD 0) < 5) :
    ∀ m i f nm nu L op arg tk va, n - i < m → i ≤ n → n - i < f → L.length + k ≤ i → nu < 16384 → tS T n i ≠ 17 → DraftIs L op arg op0 arg0 → TR (tS T n i) (tV T n i) tk va →
      PieceC T n i k (4, nm, cm, op1, pa, nu, W, L) 3 (fun s => ¬ dSm s) rf rp op0 arg0 (F_X12_readSum_10 (nI n) r wd f (nI (tE T n i)) (nI (tP T n i)) (nI L.length) rf rp tk va arg op) := by
  have hn := h.1
  intro m
  induction m with
  | zero => intro i f nm nu L op arg tk va a; omega
  | succ m ih =>
    intro i f nm nu L op arg tk va hm hi hf hk hnu h17 hd ht
    obtain ⟨f, rfl⟩ : ∃ g, f = g + 1 := ⟨f - 1, by omega⟩
    have hok := tS_ok h hi
    rw [F_X12_readSum_10, show (43 : Int32) = nI (sVal 15) from rfl, isSign_tr ht hok (w := 15) (by omega) rfl, Option.bind_some, ite10, show (45 : Int32) = nI (sVal 16) from rfl, isSign_tr ht hok (w := 16) (by omega) rfl, Option.bind_some, ite10]
    by_cases c : tS T n i = 15 ∨ tS T n i = 16
    · have hva : va = nI (sVal (tS T n i)) := ht.2.2 (by omega) (by omega) (by omega)
      have he := tE_le (T := T) hi
      have hp := tP_le (T := T) hi
      have hlt := tE_lt (T := T) (n := n) (i := i) (by omega)
      obtain ⟨tk1, va1, n1, ht1⟩ := next_s h hW he.2 (nI (tP T n i)) tk va
      have hsm : dSm (tS T n i) := c.elim Or.inl (fun z => Or.inr (Or.inl z))
      have hrk : rk (tS T n i) = 5 := by rcases c with c | c <;> rw [c] <;> rfl
      have hstep : step (4, nm, cm, op1, pa, nu, W, L) (tS T n i) (tV T n i) = (0, 1, nm, cm, op1, pa, nu, tS T n i :: W, L) := by
        rw [step4, if_neg (fun z => z.2 hsm)]
        unfold sBU
        rw [if_pos hsm]
        unfold pushS
        rw [hrk, rel_stay h5, if_neg (by omega)]
      have go : ∀ s0, s0 = nI (opOf (tS T n i)) → PieceC T n i k (4, nm, cm, op1, pa, nu, W, L) 3 (fun s => ¬ dSm s) rf rp op0 arg0 (F_X12_readSum_42 (nI n) r wd (F_X12_readSum_10 (nI n) r wd f) s0 (nI (tE T n i)) (nI (tP T n i)) (nI L.length) rf rp tk va arg op) := by
        intro s0 hs0
        unfold F_X12_readSum_42
        rw [n1, Option.bind_some]
        dsimp only
        obtain ⟨ret, at2, fr2, many2, rf2, rp2, tk2, va2, arg2, op2, u0, u1, u2⟩ := product12 h hW (k := k + 1) (nm := nm) (cm := cm) (op1 := op1) (pa := pa) (nu := nu) (W := tS T n i :: W) (L := L) (rf := rf) (rp := rp) (op := op) (arg := arg) (by rw [List.headD_cons, hrk]; omega) he.2 (by omega) hnu hd ht1
        rw [u0, Option.bind_some]
        dsimp only
        rcases u2 with ⟨e, kf, pf, b1, b2, b3, b4, b5⟩ | ⟨e, b1, b2, i', nm', nu', M, b3, b4, b5, b6, b7, b8, b9, b10, bq, b11⟩
        · rw [if_pos e]
          exact ⟨_, _, _, _, _, _, _, _, _, _, rfl, u1, Or.inl ⟨rfl, kf, pf, b1, b2, b3, b4, CR.next hstep b5⟩⟩
        · dsimp only at b6 b7 b8 b11
          rw [if_neg (by rw [e]; decide), b6]
          obtain ⟨arg3, op3, q1, q2⟩ := emits_n (s := tS T n i) (v := 0) (x1 := s0) (x2 := 0) b7 (by omega) hs0 (by rcases c with c | c <;> rw [c] <;> rfl)
          rw [q1, Option.bind_some]
          dsimp only
          obtain ⟨x1, x2, x3⟩ := b5
          rw [x1, x2, b1, b2]
          have key := ih i' f nm' nu' (L ++ M ++ [(tS T n i, 0)]) op3 arg3 tk2 va2 (by omega) b4 (by omega) (by rw [List.length_append (as := L ++ M), List.length_singleton]; omega) b9 bq q2 x3
          obtain ⟨ret, at4, fr4, many4, rf4, rp4, tk4, va4, arg4, op4, u0', u1', u2'⟩ := key
          refine ⟨ret, at4, fr4, many4, rf4, rp4, tk4, va4, arg4, op4, u0', u1', ?_⟩
          have chain : ∀ out, CR T n i' (4, nm', cm, op1, pa, nu', W, L ++ M ++ [(tS T n i, 0)]) out → CR T n i (4, nm, cm, op1, pa, nu, W, L) out := fun out hc => CR.next hstep (b11 out (CR.sameE (eag4 (by omega) (by omega) (fun z => by
            rw [hrk]
            rcases z with z | z | z
            · rw [z]; decide
            · rw [z]; decide
            · exact absurd z bq)) hc))
          rcases u2' with ⟨e', kf, pf, c1, c2, c3, c4, c5⟩ | ⟨e', c1, c2, i4, nm4, nu4, M4, c3, c4, c5, c6, c7, c8, c9, c10, c11, c12⟩
          · exact Or.inl ⟨e', kf, pf, c1, c2, c3, c4, chain _ c5⟩
          · refine Or.inr ⟨e', c1, c2, i4, nm4, nu4, M ++ [(tS T n i, 0)] ++ M4, by omega, c4, c5, ?_, ?_, ?_, c9, tyC_join (by omega) (by omega) b10 c10, c11, fun out hc => chain out (c12 out ?_)⟩
            · rw [c6]; simp only [List.append_assoc]
            · have := c7; simp only [List.append_assoc] at this ⊢; exact this
            · have := c8; simp only [List.append_assoc] at this ⊢; exact this
            · have := hc; simp only [List.append_assoc] at this ⊢; exact this
      unfold F_X12_readSum_28
      rcases c with c | c
      · rw [if_pos c, if_pos (show va = (43 : Int32) by rw [hva, c]; rfl)]
        exact go 4 (by rw [c]; rfl)
      · rw [if_neg (show ¬ tS T n i = 15 by omega), if_pos c, if_neg (show ¬ va = (43 : Int32) by rw [hva, c]; decide)]
        exact go 5 (by rw [c]; rfl)
    · rw [if_neg (fun z => c (Or.inl z)), if_neg (fun z => c (Or.inr z))]
      refine ⟨_, _, _, _, _, _, _, _, _, _, rfl, hd.2, Or.inr ⟨rfl, rfl, rfl, i, nm, nu, [], Nat.le_refl _, hi, ⟨rfl, rfl, ht⟩, ?_, ?_, ?_, hnu, tyC_nil 3, fun z => ?_, fun out hc => ?_⟩⟩
      · dsimp only; rw [List.append_nil]
      · dsimp only; rw [List.append_nil]; exact hd
      · dsimp only; rw [List.append_nil]; exact hk
      · rcases z with z | z | z
        · exact c (Or.inl z)
        · exact c (Or.inr z)
        · exact h17 z
      · dsimp only at hc; rw [List.append_nil] at hc; exact hc
theorem sum12 (h : TxtIs r T n) (hW : WordsIs wd) {i k nm cm op1 pa nu : Nat} {W : List Nat} {L : List (Nat × Nat)} {rf rp : Int32} {op arg op0 arg0 : Nat → Int32} (h5 : rk (W.headD 0) < 5) (hi : i ≤ n) (hk : L.length + k ≤ i) (hnu : nu < 16384) (hd : DraftIs L op arg op0 arg0) {tk va : Int32} (ht : TR (tS T n i) (tV T n i) tk va) :
    PieceQ T n i k (1, nm, cm, op1, pa, nu, W, L) 3 (fun s => ¬ dSm s) rf rp op0 arg0 (F_X12_readSum (nI (tE T n i)) (nI (tP T n i)) (nI L.length) rf rp (nI n) tk va arg op r wd) := by
  have hn := h.1
  unfold F_X12_readSum
  obtain ⟨ret, at2, fr2, many2, rf2, rp2, tk2, va2, arg2, op2, u0, u1, u2⟩ := product12 h hW (k := k) (nm := nm) (cm := cm) (op1 := op1) (pa := pa) (nu := nu) (W := W) (L := L) (rf := rf) (rp := rp) (op := op) (arg := arg) (by omega) hi hk hnu hd ht
  rw [u0, Option.bind_some]
  dsimp only
  rcases u2 with ⟨e, kf, pf, b1, b2, b3, b4, b5⟩ | ⟨e, b1, b2, i', nm', nu', M, b3, b4, b5, b6, b7, b8, b9, b10, bq, b11⟩
  · rw [if_pos e]
    exact ⟨_, _, _, _, _, _, _, _, _, _, rfl, u1, Or.inl ⟨rfl, kf, pf, b1, b2, b3, b4, b5⟩⟩
  · dsimp only at b6 b7 b8 b11
    obtain ⟨x1, x2, x3⟩ := b5
    rw [if_neg (by rw [e]; decide), b6, x1, x2, b1, b2]
    obtain ⟨ret, at4, fr4, many4, rf4, rp4, tk4, va4, arg4, op4, u0', u1', u2'⟩ := sum_loop h hW (k := k) (cm := cm) (op1 := op1) (pa := pa) (rf := rf) (rp := rp) h5 (n - i' + 1) i' FU nm' nu' (L ++ M) op2 arg2 tk2 va2 (by omega) b4 (by show _ < 100000; omega) b8 b9 bq b7 x3
    refine ⟨ret, at4, fr4, many4, rf4, rp4, tk4, va4, arg4, op4, u0', u1', ?_⟩
    rcases u2' with ⟨e', kf, pf, c1, c2, c3, c4, c5⟩ | ⟨e', c1, c2, i4, nm4, nu4, M4, c3, c4, c5, c6, c7, c8, c9, c10, c11, c12⟩
    · exact Or.inl ⟨e', kf, pf, c1, c2, c3, c4, b11 _ c5⟩
    · refine Or.inr ⟨e', c1, c2, i4, nm4, nu4, M ++ M4, by omega, c4, c5, ?_, ?_, ?_, c9, tyM_C b10 c10, c11, fun out hc => b11 out (c12 out ?_)⟩
      · rw [c6]; simp only [List.append_assoc]
      · have := c7; simp only [List.append_assoc] at this ⊢; exact this
      · have := c8; simp only [List.append_assoc] at this ⊢; exact this
      · have := hc; simp only [List.append_assoc] at this ⊢; exact this
end SU
