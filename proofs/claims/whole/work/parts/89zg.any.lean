/-! the reference reads clauses as the machine does -/
def AnyOut (T : Nat → Nat) (n i : Nat) (S : PS) (rf rp : Int32) (op0 arg0 : Nat → Int32) (x : Option (Int32 × Int32 × Int32 × Int32 × Int32 × Int32 × Int32 × Int32 × Int32 × Int32 × (Nat → Int32) × (Nat → Int32) × (Nat → Int32))) : Prop :=
  ∃ ret at1 fr many opn pes rf' rp' tk va arg op pe, x = some (ret, at1, fr, many, opn, pes, rf', rp', tk, va, arg, op, pe) ∧ Keeps op arg op0 arg0 ∧
    ((ret = -1 ∧ ∃ kf pf, rf' = nI kf ∧ rp' = nI pf ∧ 1 ≤ kf ∧ kf ≤ 3 ∧ CR T n i S (kf, pf, [])) ∨
     (ret = 0 ∧ rf' = rf ∧ rp' = rp ∧ ∃ i' nm' cm' op' nu' L', i ≤ i' ∧ i' ≤ n ∧ AtTok T n i' at1 fr tk va ∧ many = nI L'.length ∧ DraftIs L' op arg op0 arg0 ∧ L'.length ≤ i' ∧ Kinds L' 1 ∧ (tS T n i' ≠ 2 → CR T n i S (1, tP T n i', [])) ∧
       (tS T n i' = 2 → ∀ out, CR T n (tE T n i') (6, nm', cm', op', 0, nu', [], L') out → CR T n i S out)))
theorem AnyOut.from {T : Nat → Nat} {n i i2 : Nat} {S S2 : PS} {rf rp : Int32} {op0 arg0 : Nat → Int32} {x : Option (Int32 × Int32 × Int32 × Int32 × Int32 × Int32 × Int32 × Int32 × Int32 × Int32 × (Nat → Int32) × (Nat → Int32) × (Nat → Int32))} (hi : i ≤ i2) (h : ∀ out, CR T n i2 S2 out → CR T n i S out) (hx : AnyOut T n i2 S2 rf rp op0 arg0 x) : AnyOut T n i S rf rp op0 arg0 x := by
  obtain ⟨ret, at1, fr, many, opn, pes, rf', rp', tk, va, arg, op, pe, u0, u1, u2⟩ := hx
  refine ⟨ret, at1, fr, many, opn, pes, rf', rp', tk, va, arg, op, pe, u0, u1, ?_⟩
  rcases u2 with ⟨e, kf, pf, b1, b2, b3, b4, b5⟩ | ⟨e, b1, b2, i', nm', cm', op', nu', L', b3, b4, b5, b6, b7, b8, b9, b10, b11⟩
  · exact Or.inl ⟨e, kf, pf, b1, b2, b3, b4, h _ b5⟩
  · exact Or.inr ⟨e, b1, b2, i', nm', cm', op', nu', L', by omega, b4, b5, b6, b7, b8, b9, fun z => h _ (b10 z), fun z out hc => h _ (b11 z out hc)⟩
theorem waits_n {pe : Nat → Int32} {P : List Nat} {s : Nat} {x : Int32} (hx : x = nI (pO s)) (hl : P.length < 40) (hr : onRow pe (P.map (fun x => nI (pO x)))) : ∃ pe', F_X12_waits x (nI P.length) pe = some (nI (s :: P).length, pe') ∧ onRow pe' ((s :: P).map (fun x => nI (pO x))) := by
  unfold F_X12_waits
  rw [gin_n hl (by omega), nI_clamp (by omega), nI_1, hx]
  exact ⟨_, rfl, by rw [List.map_cons]; exact ⟨by rw [List.length_map, upd_self], onRow_upd (by rw [List.length_map]; exact Nat.le_refl _) hr⟩⟩
theorem settles_w {pe : Nat → Int32} {y : Nat} (hy : y = 14 ∨ y = 21 ∨ y = 22) {x : Int32} (hx : x = nI (opOf y)) {op0 arg0 : Nat → Int32} {P : List Nat} {op1 : Nat} {L : List (Nat × Nat)} {op arg : Nat → Int32} (hv : lvOk P) (hp : pOk P) (hl : P.length + L.length ≤ 400) (ho : opens P = op1) (h8 : op1 ≤ 8) (hr : onRow pe (P.map (fun x => nI (pO x)))) (hd : DraftIs L op arg op0 arg0) :
    ∃ op' arg', F_X12_settles x (nI L.length) (nI op1) (nI P.length) arg op pe = some (nI (stl y P op1 L).2.2.length, nI (stl y P op1 L).2.1, nI (stl y P op1 L).1.length, arg', op') ∧ DraftIs (stl y P op1 L).2.2 op' arg' op0 arg0 ∧ onRow pe ((stl y P op1 L).1.map (fun x => nI (pO x))) := by
  have := lvOk_29 hv (by omega)
  subst hx
  exact settles_n hy P op1 L op arg FU hp (by omega) hl (by show _ < 100000; omega) ho (by omega) hr hd
section AN
variable {r wd : Nat → Int32} {T : Nat → Nat} {n : Nat}
theorem any_loop (h : TxtIs r T n) (hW : WordsIs wd) {rf rp : Int32} {op0 arg0 : Nat → Int32} :
    ∀ m i f due st nm cm op1 pa nu P L op arg pe tk va, n - i < m → i ≤ n → n - i < f → lvOk P → pOk P → opens P = op1 → op1 ≤ 8 → cnt3 P = pa → P.length + L.length ≤ i → nu < 16384 → cm ≤ 1 → (due = 1 ∧ Kinds L (bins P) ∧ (st = 0 ∨ (st = 7 ∧ tS T n i ≠ 0)) ∨ due = 0 ∧ Kinds L (bins P + 1) ∧ st = 5 ∧ P.head? ≠ some 14) → onRow pe (P.map (fun x => nI (pO x))) → DraftIs L op arg op0 arg0 → TR (tS T n i) (tV T n i) tk va →
      AnyOut T n i (st, nm, cm, op1, pa, nu, P, L) rf rp op0 arg0 (F_X12_readAny_9 (nI n) r wd f (nI pa) (nI due) (nI (tE T n i)) (nI (tP T n i)) (nI L.length) (nI op1) (nI P.length) rf rp tk va arg op pe) := by
  have hn := h.1
  intro m
  induction m with
  | zero => intro i f due st nm cm op1 pa nu P L op arg pe tk va a; omega
  | succ m ih =>
    intro i f due st nm cm op1 pa nu P L op arg pe tk va hm hi hf hv hp ho h8 h3 hl hnu hcm hdue hr hd ht
    obtain ⟨f, rfl⟩ : ∃ g, f = g + 1 := ⟨f - 1, by omega⟩
    have hok := tS_ok h hi
    have he := tE_le (T := T) hi
    have hpp := tP_le (T := T) hi
    have h29 := lvOk_29 hv (by omega)
    have hb := bins_le P
    obtain ⟨tk1, va1, n1, ht1⟩ := next_s h hW he.2 (nI (tP T n i)) tk va
    have hrk3 : rk (P.headD 0) ≤ 3 := by
      cases P with
      | nil => decide
      | cons x P => rcases hp x List.mem_cons_self with rfl | rfl | rfl | rfl <;> (rw [List.headD_cons]; decide)
    rw [F_X12_readAny_9]
    rcases hdue with ⟨rfl, hkd, hst⟩ | ⟨rfl, hkd, rfl, h14⟩
    · rw [if_neg (show ¬ nI 1 = (0 : Int32) by decide), show (8 : Int32) = nI (sVal 14) from rfl, isWord_tr ht hok (w := 14) (by omega) rfl, Option.bind_some]
      have opening : ∀ x3 : Int32, (tS T n i = 14 ∧ x3 = 1 ∨ tS T n i = 3 ∧ x3 = 0) → AnyOut T n i (st, nm, cm, op1, pa, nu, P, L) rf rp op0 arg0 (F_X12_readAny_33 (nI n) r wd (F_X12_readAny_9 (nI n) r wd f) (nI pa) (nI 1) x3 (nI (tE T n i)) (nI (tP T n i)) (nI L.length) (nI op1) (nI P.length) rf rp tk va arg op pe) := by
        intro x3 hx3
        have hs : tS T n i = 14 ∨ tS T n i = 3 := hx3.elim (fun z => Or.inl z.1) (fun z => Or.inr z.1)
        have hlt := tE_lt (T := T) (n := n) (i := i) (by omega)
        unfold F_X12_readAny_33
        by_cases c8 : op1 = 8
        · rw [if_pos (show nI op1 = (8 : Int32) by rw [c8]; rfl), fails_n, Option.bind_some]
          refine ⟨_, _, _, _, _, _, _, _, _, _, _, _, _, rfl, hd.2, Or.inl ⟨rfl, 3, tP T n i, rfl, rfl, by omega, by omega, CR.stop (k := 3) (S' := (8, nm, cm, op1, pa, nu, P, L)) ?_ (by omega) (by omega)⟩⟩
          rw [step07 hst]
          unfold sClause
          rw [if_pos hs, if_neg (by omega), if_neg (by omega)]
        · rw [if_neg (show ¬ nI op1 = (8 : Int32) from fun z => c8 ((nI_eq (show op1 < 2 ^ 31 by omega) (show 8 < 2 ^ 31 by omega)).mp z))]
          have hstep : step (st, nm, cm, op1, pa, nu, P, L) (tS T n i) (tV T n i) = (0, 0, nm, cm, op1 + 1, (if tS T n i = 3 then pa + 1 else pa), nu, tS T n i :: P, L) := by
            rw [step07 hst]
            unfold sClause
            rw [if_pos hs, if_pos (show op1 < 8 by omega), if_neg (show ¬ tS T n i = 6 by omega)]
          obtain ⟨pe', w1, w2⟩ := waits_n (s := tS T n i) (x := nI (pO (tS T n i))) rfl (by omega) hr
          have go := ih (tE T n i) f 1 0 nm cm (op1 + 1) (if tS T n i = 3 then pa + 1 else pa) nu (tS T n i :: P) L op arg pe' tk1 va1 (by omega) he.2 (by omega) ⟨hv, Or.inl ⟨hs.symm, hrk3⟩⟩ (fun z hz => by
            rcases List.mem_cons.mp hz with e | e
            · rw [e]; omega
            · exact hp z e) (by rw [opens, if_pos hs.symm, ho]) (by omega) (by rw [cnt3, h3]; split <;> rfl) (by rw [List.length_cons]; omega) hnu hcm (Or.inl ⟨rfl, by rw [bins, if_neg (by omega), Nat.add_zero]; exact hkd, Or.inl rfl⟩) w2 hd ht1
          refine AnyOut.from (by omega) (fun out hc => CR.next hstep hc) ?_
          unfold F_X12_readAny_66 F_X12_readAny_78
          rcases hx3 with ⟨e1, e2⟩ | ⟨e1, e2⟩
          · rw [e2, if_neg one_ne, if_neg one_ne, n1]
            rw [e1] at w1 go
            rw [show (10 : Int32) = nI (pO 14) from rfl, w1, Option.bind_some, Option.bind_some, nI_1, e1]
            rw [if_neg (show ¬ (14 : Nat) = 3 by omega)] at go ⊢
            exact go
          · rw [e2, if_pos rfl, if_pos rfl, n1]
            rw [e1] at w1 go
            rw [show (13 : Int32) = nI (pO 3) from rfl, w1, Option.bind_some, Option.bind_some, nI_1, nI_1, e1]
            rw [if_pos rfl] at go ⊢
            exact go
      by_cases c14 : tS T n i = 14
      · rw [if_pos c14, if_neg one_ne]
        exact opening 1 (Or.inl ⟨c14, rfl⟩)
      · rw [if_neg c14, if_pos rfl, show (40 : Int32) = nI (sVal 3) from rfl, isSign_tr ht hok (w := 3) (by omega) rfl, Option.bind_some, ite10]
        by_cases c3 : tS T n i = 3
        · rw [if_pos c3]
          exact opening 0 (Or.inr ⟨c3, rfl⟩)
        · rw [if_neg c3]
          obtain ⟨ret, at2, fr2, many2, rf2, rp2, tk2, va2, arg2, op2, u0, u1, u2⟩ := compared12 h hW (k := P.length) (st := st) (nm := nm) (cm := cm) (op1 := op1) (pa := pa) (nu := nu) (W := P) (L := L) (rf := rf) (rp := rp) (op := op) (arg := arg) hst hrk3 c14 c3 hi (by omega) hnu hcm hd ht
          rw [u0, Option.bind_some]
          dsimp only
          rcases u2 with ⟨e, kf, pf, b1, b2, b3, b4, b5⟩ | ⟨e, b1, b2, i', nm', cm', nu', M, b3, b4, b5, b6, b7, b8, b9, b10, b11, b12⟩
          · rw [if_pos e]
            exact ⟨_, _, _, _, _, _, _, _, _, _, _, _, _, rfl, u1, Or.inl ⟨rfl, kf, pf, b1, b2, b3, b4, b5⟩⟩
          · dsimp only at b6 b7 b8 b12
            obtain ⟨x1, x2, x3⟩ := b5
            rw [if_neg (by rw [e]; decide), b6, x1, x2, b1, b2]
            obtain ⟨op3, arg3, q1, q2, q3⟩ := settles_w (y := 14) (Or.inl rfl) (x := 10) rfl hv hp (by omega) ho h8 hr b7
            rw [q1, Option.bind_some]
            obtain ⟨g1, g2, g3, g4, g5, g6, g7⟩ := stl_facts (y := 14) (Or.inl rfl) P op1 (L ++ M) hv hp ho
            have kk := kinds_stl (y := 14) (Or.inl rfl) P op1 (L ++ M) (kinds_app hkd b11 (by omega))
            refine AnyOut.from (Nat.le_of_lt b3) (fun out hc => b12 out (CR.nots P op1 (L ++ M) hc)) ?_
            exact ih i' f 0 5 nm' cm' _ pa nu' _ _ op3 arg3 pe tk2 va2 (by omega) b4 (by omega) g1 g2 g3 (by omega) (by rw [g5]; exact h3) (by omega) b9 b10 (Or.inr ⟨rfl, kk, rfl, g7⟩) q3 q2 x3
    · rw [if_pos (show nI 0 = (0 : Int32) from rfl), show (7 : Int32) = nI (sVal 21) from rfl, isWord_tr ht hok (w := 21) (by omega) rfl, Option.bind_some, ite10, show (6 : Int32) = nI (sVal 22) from rfl, isWord_tr ht hok (w := 22) (by omega) rfl, Option.bind_some, ite10]
      obtain ⟨opA, argA, a1, a2, a3⟩ := settles_w (y := 21) (Or.inr (Or.inl rfl)) (x := 11) rfl hv hp (by omega) ho h8 hr hd
      obtain ⟨g1, g2, g3, g4, g5, g6, g7⟩ := stl_facts (y := 21) (Or.inr (Or.inl rfl)) P op1 L hv hp ho
      have kA := kinds_stl (y := 21) (Or.inr (Or.inl rfl)) P op1 L hkd
      have e2 : rel 2 P op1 L = stl 21 P op1 L := rel2_stl hv hp h14
      have f2 := rel_facts (k := 2) (by omega) P op1 L hv ho
      have e1 := rel1_stl (op := op1) (L := L) hv hp h14
      have f1 := rel_facts (k := 1) (by omega) P op1 L hv ho
      rw [e2] at f2
      simp only [a1, Option.bind_some]
      generalize hZ : stl 21 P op1 L = Z at *
      obtain ⟨PA, oA, LA⟩ := Z
      dsimp only at *
      by_cases c21 : tS T n i = 21
      · rw [if_pos c21]
        have hlt := tE_lt (T := T) (n := n) (i := i) (by omega)
        have l29 := lvOk_29 g1 (by omega)
        obtain ⟨pe', w1, w2⟩ := waits_n (s := 21) (x := 11) rfl (by omega) a3
        rw [w1, Option.bind_some, n1, Option.bind_some]
        have hstep : step (5, nm, cm, op1, pa, nu, P, L) (tS T n i) (tV T n i) = (0, 0, nm, cm, oA, pa, nu, 21 :: PA, LA) := by
          rw [step5, c21]
          unfold sBC
          rw [if_pos (Or.inl rfl)]
          unfold pushS
          rw [show rk 21 = 2 from rfl, e2, if_neg (by omega)]
        refine AnyOut.from (by omega) (fun out hc => CR.next hstep hc) ?_
        exact ih (tE T n i) f 1 0 nm cm oA pa nu (21 :: PA) LA opA argA pe' tk1 va1 (by omega) he.2 (by omega) ⟨g1, Or.inr ⟨f2.2.2.2.2.2, by omega, by omega⟩⟩ (fun z hz => by
            rcases List.mem_cons.mp hz with e | e
            · rw [e]; omega
            · exact g2 z e) (by rw [opens, if_neg (by omega), g3]; rfl) (by omega) (by rw [cnt3, if_neg (by omega), g5, h3]; rfl) (by rw [List.length_cons]; omega) hnu hcm (Or.inl ⟨rfl, by rw [bins, if_pos (Or.inl rfl)]; exact kA, Or.inl rfl⟩) w2 a2 ht1
      rw [if_neg c21]
      obtain ⟨opB, argB, b1, b2, b3⟩ := settles_w (y := 22) (Or.inr (Or.inr rfl)) (x := 12) rfl g1 g2 (by omega) g3 (by omega) a3 a2
      obtain ⟨k1, k2, k3, k4, k5, k6, k7⟩ := stl_facts (y := 22) (Or.inr (Or.inr rfl)) PA oA LA g1 g2 g3
      have kB := kinds_stl (y := 22) (Or.inr (Or.inr rfl)) PA oA LA kA
      rw [e1] at f1
      simp only [b1, Option.bind_some]
      generalize stl 22 PA oA LA = Y at *
      obtain ⟨PB, oB', LB⟩ := Y
      dsimp only at *
      by_cases c22 : tS T n i = 22
      · rw [if_pos c22]
        have hlt := tE_lt (T := T) (n := n) (i := i) (by omega)
        have l29 := lvOk_29 k1 (by omega)
        obtain ⟨pe', w1, w2⟩ := waits_n (s := 22) (x := 12) rfl (by omega) b3
        rw [w1, Option.bind_some, n1, Option.bind_some]
        have hstep : step (5, nm, cm, op1, pa, nu, P, L) (tS T n i) (tV T n i) = (0, 0, nm, cm, oB', pa, nu, 22 :: PB, LB) := by
          rw [step5, c22]
          unfold sBC
          rw [if_pos (Or.inr rfl)]
          unfold pushS
          rw [show rk 22 = 1 from rfl, e1, if_neg (by omega)]
        refine AnyOut.from (by omega) (fun out hc => CR.next hstep hc) ?_
        exact ih (tE T n i) f 1 0 nm cm oB' pa nu (22 :: PB) LB opB argB pe' tk1 va1 (by omega) he.2 (by omega) ⟨k1, Or.inr ⟨f1.2.2.2.2.2, by omega, by omega⟩⟩ (fun z hz => by
            rcases List.mem_cons.mp hz with e | e
            · rw [e]; omega
            · exact k2 z e) (by rw [opens, if_neg (by omega), k3]; rfl) (by omega) (by rw [cnt3, if_neg (by omega), k5, g5, h3]; rfl) (by rw [List.length_cons]; omega) hnu hcm (Or.inl ⟨rfl, by rw [bins, if_pos (Or.inr rfl)]; exact kB, Or.inl rfl⟩) w2 b2 ht1
      rw [if_neg c22]
      by_cases c0 : pa = 0
      · rw [if_pos (show nI pa = 0 by rw [c0]; rfl)]
        have hnil : PB = [] := by
          cases PB with
          | nil => rfl
          | cons x PB =>
            exfalso
            have hx := f1.2.2.2.2.2
            rw [List.headD_cons] at hx
            rcases k2 x List.mem_cons_self with rfl | rfl | rfl | rfl
            · rw [cnt3, if_pos rfl] at k5; omega
            · exact absurd hx (by decide)
            · exact absurd hx (by decide)
            · exact absurd hx (by decide)
        subst hnil
        refine ⟨_, _, _, _, _, _, _, _, _, _, _, _, _, rfl, b2.2, Or.inr ⟨rfl, rfl, rfl, i, nm, cm, oB', nu, LB, Nat.le_refl _, hi, ⟨rfl, rfl, ht⟩, rfl, b2, by rw [List.length_nil] at k6; omega, kB, fun z => ?_, fun z out hc => ?_⟩⟩
        · refine CR.stop (k := 1) (S' := (8, nm, cm, op1, pa, (if tS T n i = 6 then tV T n i else nu), P, L)) ?_ (by omega) (by omega)
          rw [step5]
          unfold sBC
          rw [if_neg (by omega), if_neg (by omega), if_neg (by omega)]
        · refine CR.next ?_ hc
          rw [step5, z]
          unfold sBC
          rw [if_neg (by omega), if_neg (by omega), if_pos ⟨rfl, c0⟩, e1, if_neg (by omega), c0]
      · rw [if_neg (show ¬ nI pa = 0 from nI_ne0 (by omega) (by have := cnt3_le P; omega)), show (41 : Int32) = nI (sVal 4) from rfl, isSign_tr ht hok (w := 4) (by omega) rfl, Option.bind_some, ite10]
        by_cases c4 : tS T n i = 4
        · rw [if_pos c4]
          have hlt := tE_lt (T := T) (n := n) (i := i) (by omega)
          cases PB with
          | nil => exfalso; rw [cnt3] at k5; omega
          | cons x PB =>
            have hx := f1.2.2.2.2.2
            rw [List.headD_cons] at hx
            have hx3 : x = 3 := by
              rcases k2 x List.mem_cons_self with e | e | e | e
              · exact e
              · subst e; exact absurd hx (by decide)
              · subst e; exact absurd hx (by decide)
              · subst e; exact absurd hx (by decide)
            subst hx3
            have hpB : pOk PB := fun z hz => k2 z (List.mem_cons_of_mem _ hz)
            rw [opens, if_pos (Or.inl rfl)] at k3
            rw [cnt3, if_pos rfl] at k5
            rw [List.length_cons] at k6
            rw [List.map_cons] at b3
            rw [bins, if_neg (by omega), Nat.add_zero] at kB
            have hoB : opens PB = oB' - 1 := by omega
            obtain ⟨opC, argC, d1, d2, d3⟩ := settles_w (y := 14) (Or.inl rfl) (x := 10) rfl k1.1 hpB (by omega) hoB (by omega) b3.2 b2
            obtain ⟨m1, m2, m3, m4, m5, m6, m7⟩ := stl_facts (y := 14) (Or.inl rfl) PB (oB' - 1) LB k1.1 hpB hoB
            have kC := kinds_stl (y := 14) (Or.inl rfl) PB (oB' - 1) LB kB
            have hstep : step (5, nm, cm, op1, pa, nu, P, L) (tS T n i) (tV T n i) = (0, 5, nm, cm, oB' - 1, pa - 1, nu, PB, LB) := by
              rw [step5, c4]
              unfold sBC
              rw [if_neg (by omega), if_pos ⟨rfl, by omega⟩, e1, if_neg (by omega)]
              rfl
            rw [List.length_cons, nI_pred, show nI oB' - 1 = nI (oB' - 1) from pk_sub (b := 1) (by omega), d1, Option.bind_some, n1, Option.bind_some, show nI pa - 1 = nI (pa - 1) from pk_sub (b := 1) (by omega)]
            refine AnyOut.from (by omega) (fun out hc => CR.next hstep (CR.nots PB (oB' - 1) LB hc)) ?_
            exact ih (tE T n i) f 0 5 nm cm _ (pa - 1) nu _ _ opC argC pe tk1 va1 (by omega) he.2 (by omega) m1 m2 m3 (by omega) (by omega) (by omega) hnu hcm (Or.inr ⟨rfl, kC, rfl, m7⟩) d3 d2 ht1
        · rw [if_neg c4, fails_n, Option.bind_some]
          refine ⟨_, _, _, _, _, _, _, _, _, _, _, _, _, rfl, b2.2, Or.inl ⟨rfl, 1, tP T n i, rfl, rfl, by omega, by omega, CR.stop (k := 1) (S' := (8, nm, cm, op1, pa, (if tS T n i = 6 then tV T n i else nu), P, L)) ?_ (by omega) (by omega)⟩⟩
          rw [step5]
          unfold sBC
          rw [if_neg (by omega), if_neg (by omega), if_neg (by omega)]
end AN
