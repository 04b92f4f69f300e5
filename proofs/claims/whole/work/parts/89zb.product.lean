/-! products -/
theorem rel_stay {k op : Nat} {W : List Nat} {L : List (Nat × Nat)} (h : rk (W.headD 0) < k) : rel k W op L = (W, op, L) := by
  cases W with
  | nil => rfl
  | cons x W =>
    rw [List.headD_cons] at h
    rw [rel, if_neg (by omega)]
/-- code that goes on from a number to a number -/
def TyC (d : Nat) (M : List (Nat × Nat)) : Prop := (∀ c ∈ M, opOk c.1 c.2) ∧ ∀ T0 : List Bool, T0.length + d ≤ 40 → tRun M (false :: T0) = some (false :: T0)
/-- a piece read by both, from the machine's state 4 on; what the next token then isn't -/
def PieceC (T : Nat → Nat) (n i k : Nat) (S : PS) (d : Nat) (Q : Nat → Prop) (rf rp : Int32) (op0 arg0 : Nat → Int32) (x : Option (Int32 × Int32 × Int32 × Int32 × Int32 × Int32 × Int32 × Int32 × (Nat → Int32) × (Nat → Int32))) : Prop :=
  ∃ ret at1 fr many rf' rp' tk va arg op, x = some (ret, at1, fr, many, rf', rp', tk, va, arg, op) ∧ Keeps op arg op0 arg0 ∧
    ((ret = -1 ∧ ∃ kf pf, rf' = nI kf ∧ rp' = nI pf ∧ 1 ≤ kf ∧ kf ≤ 3 ∧ CR T n i S (kf, pf, [])) ∨
     (ret = 0 ∧ rf' = rf ∧ rp' = rp ∧ ∃ i' nm' nu' M, i ≤ i' ∧ i' ≤ n ∧ AtTok T n i' at1 fr tk va ∧ many = nI (S.2.2.2.2.2.2.2 ++ M).length ∧ DraftIs (S.2.2.2.2.2.2.2 ++ M) op arg op0 arg0 ∧ (S.2.2.2.2.2.2.2 ++ M).length + k ≤ i' ∧ nu' < 16384 ∧ TyC d M ∧ Q (tS T n i') ∧
       ∀ out, CR T n i' (4, nm', S.2.2.1, S.2.2.2.1, S.2.2.2.2.1, nu', S.2.2.2.2.2.2.1, S.2.2.2.2.2.2.2 ++ M) out → CR T n i S out))
/-- the same, from the state 1 (a unit due) on -/
def PieceQ (T : Nat → Nat) (n i k : Nat) (S : PS) (d : Nat) (Q : Nat → Prop) (rf rp : Int32) (op0 arg0 : Nat → Int32) (x : Option (Int32 × Int32 × Int32 × Int32 × Int32 × Int32 × Int32 × Int32 × (Nat → Int32) × (Nat → Int32))) : Prop :=
  ∃ ret at1 fr many rf' rp' tk va arg op, x = some (ret, at1, fr, many, rf', rp', tk, va, arg, op) ∧ Keeps op arg op0 arg0 ∧
    ((ret = -1 ∧ ∃ kf pf, rf' = nI kf ∧ rp' = nI pf ∧ 1 ≤ kf ∧ kf ≤ 3 ∧ CR T n i S (kf, pf, [])) ∨
     (ret = 0 ∧ rf' = rf ∧ rp' = rp ∧ ∃ i' nm' nu' M, i < i' ∧ i' ≤ n ∧ AtTok T n i' at1 fr tk va ∧ many = nI (S.2.2.2.2.2.2.2 ++ M).length ∧ DraftIs (S.2.2.2.2.2.2.2 ++ M) op arg op0 arg0 ∧ (S.2.2.2.2.2.2.2 ++ M).length + k ≤ i' ∧ nu' < 16384 ∧ TyM false d M ∧ Q (tS T n i') ∧
       ∀ out, CR T n i' (4, nm', S.2.2.1, S.2.2.2.1, S.2.2.2.2.1, nu', S.2.2.2.2.2.2.1, S.2.2.2.2.2.2.2 ++ M) out → CR T n i S out))
theorem tStep_sum {s : Nat} (h1 : 15 ≤ s) (h2 : s ≤ 17) (T0 : List Bool) : tStep s (false :: false :: T0) = some (false :: T0) := by
  unfold tStep
  rw [if_neg (by omega), if_neg (by omega), if_neg (by omega), if_pos ⟨h1, h2⟩]
/-- a number, then an operator that joins it to the one before -/
theorem tyC_join {d s : Nat} {M M' : List (Nat × Nat)} (h1 : 15 ≤ s) (h2 : s ≤ 17) (hM : TyM false d M) (hM' : TyC (d + 1) M') : TyC (d + 1) (M ++ [(s, 0)] ++ M') := by
  refine ⟨fun c hc => ?_, fun T0 h => ?_⟩
  · rcases List.mem_append.mp hc with hc | hc
    · rcases List.mem_append.mp hc with hc | hc
      · exact hM.1 c hc
      · rcases List.mem_singleton.mp hc with rfl
        exact ⟨by dsimp only; omega, fun z => by dsimp only at z; omega, fun z => by dsimp only at z; omega, fun z => by dsimp only at z; omega⟩
    · exact hM'.1 c hc
  · rw [tRun_app, tRun_app, hM.2 (false :: T0) (by rw [List.length_cons]; omega), Option.bind_some]
    show ((tStep s (false :: false :: T0)).bind (tRun [])).bind (tRun M') = _
    rw [tStep_sum h1 h2, Option.bind_some]
    exact hM'.2 T0 h
theorem tyM_C {d : Nat} {M M' : List (Nat × Nat)} (hM : TyM false d M) (hM' : TyC (d + 1) M') : TyM false (d + 1) (M ++ M') := by
  refine ⟨fun c hc => ?_, fun T0 h => ?_⟩
  · rcases List.mem_append.mp hc with hc | hc
    · exact hM.1 c hc
    · exact hM'.1 c hc
  · rw [tRun_app, hM.2 T0 (by omega), Option.bind_some]
    exact hM'.2 T0 h
theorem tyC_nil (d : Nat) : TyC d [] := ⟨fun c hc => (List.not_mem_nil hc).elim, fun _ _ => rfl⟩
section PR
variable {r wd : Nat → Int32} {T : Nat → Nat} {n : Nat}
theorem prod_loop (h : TxtIs r T n) (hW : WordsIs wd) {k cm op1 pa : Nat} {W : List Nat} {rf rp : Int32} {op0 arg0 : Nat → Int32} (h6 : rk (W.headD 0) < 6) :
    ∀ m i f nm nu L op arg tk va, n - i < m → i ≤ n → n - i < f → L.length + k ≤ i → nu < 16384 → DraftIs L op arg op0 arg0 → TR (tS T n i) (tV T n i) tk va →
      PieceC T n i k (4, nm, cm, op1, pa, nu, W, L) 2 (fun s => s ≠ 17) rf rp op0 arg0 (F_X12_readProduct_10 (nI n) r wd f (nI (tE T n i)) (nI (tP T n i)) (nI L.length) rf rp tk va arg op) := by
  have hn := h.1
  intro m
  induction m with
  | zero => intro i f nm nu L op arg tk va a; omega
  | succ m ih =>
    intro i f nm nu L op arg tk va hm hi hf hk hnu hd ht
    obtain ⟨f, rfl⟩ : ∃ g, f = g + 1 := ⟨f - 1, by omega⟩
    have hok := tS_ok h hi
    rw [F_X12_readProduct_10, show (42 : Int32) = nI (sVal 17) from rfl, isSign_tr ht hok (by omega) rfl, Option.bind_some, ite10]
    by_cases c : tS T n i = 17
    · rw [if_pos c]
      have he := tE_le (T := T) hi
      have hp := tP_le (T := T) hi
      have hlt := tE_lt (T := T) (n := n) (i := i) (by omega)
      obtain ⟨tk1, va1, n1, ht1⟩ := next_s h hW he.2 (nI (tP T n i)) tk va
      rw [n1, Option.bind_some]
      dsimp only
      have hstep : step (4, nm, cm, op1, pa, nu, W, L) (tS T n i) (tV T n i) = (0, 1, nm, cm, op1, pa, nu, 17 :: W, L) := by
        rw [step4, c, if_neg (fun z => z.2 (Or.inr (Or.inr rfl)))]
        unfold sBU
        rw [if_pos (show dSm 17 from Or.inr (Or.inr rfl))]
        unfold pushS
        rw [show rk 17 = 6 from rfl, rel_stay h6, if_neg (by omega)]
      obtain ⟨ret, at2, fr2, many2, rf2, rp2, tk2, va2, arg2, op2, u0, u1, u2⟩ := unit12 h hW (k := k + 1) (nm := nm) (cm := cm) (op1 := op1) (pa := pa) (nu := nu) (W := 17 :: W) (L := L) (rf := rf) (rp := rp) (op := op) (arg := arg) he.2 (by omega) hnu hd ht1
      rw [u0, Option.bind_some]
      dsimp only
      rcases u2 with ⟨e, kf, pf, b1, b2, b3, b4, b5⟩ | ⟨e, b1, b2, i', nm', nu', M, b3, b4, b5, b6, b7, b8, b9, b10, b11⟩
      · rw [if_pos e]
        exact ⟨_, _, _, _, _, _, _, _, _, _, rfl, u1, Or.inl ⟨rfl, kf, pf, b1, b2, b3, b4, CR.next hstep b5⟩⟩
      · dsimp only at b6 b7 b8 b11
        rw [if_neg (by rw [e]; decide), b6]
        obtain ⟨arg3, op3, q1, q2⟩ := emits_n (s := 17) (v := 0) (x1 := 6) (x2 := 0) b7 (by omega) rfl rfl
        rw [q1, Option.bind_some]
        dsimp only
        obtain ⟨x1, x2, x3⟩ := b5
        rw [x1, x2, b1, b2]
        have key := ih i' f nm' nu' (L ++ M ++ [(17, 0)]) op3 arg3 tk2 va2 (by omega) b4 (by omega) (by rw [List.length_append (as := L ++ M), List.length_singleton]; omega) b9 q2 x3
        obtain ⟨ret, at4, fr4, many4, rf4, rp4, tk4, va4, arg4, op4, u0', u1', u2'⟩ := key
        refine ⟨ret, at4, fr4, many4, rf4, rp4, tk4, va4, arg4, op4, u0', u1', ?_⟩
        have chain : ∀ out, CR T n i' (4, nm', cm, op1, pa, nu', W, L ++ M ++ [(17, 0)]) out → CR T n i (4, nm, cm, op1, pa, nu, W, L) out := fun out hc => CR.next hstep (b11 out (CR.sameE (eag4 (by decide) (by decide) (fun _ => rk_le _)) hc))
        rcases u2' with ⟨e', kf, pf, c1, c2, c3, c4, c5⟩ | ⟨e', c1, c2, i4, nm4, nu4, M4, c3, c4, c5, c6, c7, c8, c9, c10, c11, c12⟩
        · exact Or.inl ⟨e', kf, pf, c1, c2, c3, c4, chain _ c5⟩
        · refine Or.inr ⟨e', c1, c2, i4, nm4, nu4, M ++ [(17, 0)] ++ M4, by omega, c4, c5, ?_, ?_, ?_, c9, tyC_join (by omega) (by omega) b10 c10, c11, fun out hc => chain out (c12 out ?_)⟩
          · rw [c6]; simp only [List.append_assoc]
          · have := c7; simp only [List.append_assoc] at this ⊢; exact this
          · have := c8; simp only [List.append_assoc] at this ⊢; exact this
          · have := hc; simp only [List.append_assoc] at this ⊢; exact this
    · rw [if_neg c]
      refine ⟨_, _, _, _, _, _, _, _, _, _, rfl, hd.2, Or.inr ⟨rfl, rfl, rfl, i, nm, nu, [], Nat.le_refl _, hi, ⟨rfl, rfl, ht⟩, ?_, ?_, ?_, hnu, tyC_nil 2, c, fun out hc => ?_⟩⟩
      · dsimp only; rw [List.append_nil]
      · dsimp only; rw [List.append_nil]; exact hd
      · dsimp only; rw [List.append_nil]; exact hk
      · dsimp only at hc; rw [List.append_nil] at hc; exact hc
end PR
