/-! rule on both sides -/
section RB
variable {r wd : Nat → Int32} {T : Nat → Nat} {n nm : Nat}
/-- what a rule that stands so leaves of the reference's rows -/
def Others (q : Nat) (cm cm' op op' arg arg' : Nat → Int32) : Prop := ∀ q', q' < 4 → q' ≠ q → cm' q' = cm q' ∧ ∀ j, j < 500 → op' (500 * q' + j) = op (500 * q' + j) ∧ arg' (500 * q' + j) = arg (500 * q' + j)
theorem rule_in (h : TxtIs r T n) (hW : WordsIs wd) (hnm : nm < 32) {q : Nat} (hq : q < 4) (num : Int32) (at0 codes cmp fa fp opn pa pl sg st wt : Int32) (code wa : Nat → Int32) (rc fresh : Int32) (rcode : Nat → Int32) (bat bfk bfp bfr bmany bopn bpes brf brp btk btold bva : Int32) (barg bcm bop bpe : Nat → Int32) :
    ∃ a at1 codes1 cmp1 fa1 fp1 nm1 num1 opn1 pa1 pl1 sg1 wt1 code1 wa1 rc1 rcode1 fresh1, F_X11_rule (nI q) at0 codes cmp fa fp (nI n) (nI nm) num opn pa pl sg st wt code r wa rc rcode fresh = some (a, at1, codes1, cmp1, fa1, fp1, 0, nI nm1, num1, opn1, pa1, pl1, sg1, 8, wt1, code1, wa1, rc1, rcode1, fresh1) ∧ nm1 < 32 ∧
      ∃ cat cfr cmany copn cpes crf crp ctk cva carg ccm cop cpe, F_X12_rule (nI q) bat bfk bfp bfr bmany bopn bpes brf brp (nI n) btk btold bva barg bcm bop bpe r wd = some (a, cat, fa1, fp1, cfr, cmany, copn, cpes, crf, crp, 0, ctk, 0, cva, carg, ccm, cop, cpe) ∧
        ((a = 0 ∧ rc1 = rc ∧ rcode1 = rcode ∧ fresh1 = fresh ∧ ccm = bcm ∧ Keeps cop carg bop barg) ∨ (a = 1 ∧ fresh1 = 0 ∧ (∃ L, RuleIs L rc1 rcode1 q ccm cop carg) ∧ Others q bcm ccm bop cop barg carg)) := by
  obtain ⟨nu, hnu, hm⟩ := pk_andE num (m := 16383) 14 (by decide)
  obtain ⟨ret, at1, fr1, many1, opn1, pes1, rf1, rp1, tk1, va1, arg1, op1, pe1, u0, u1, u2⟩ := reads12 h hW (nm := nm) (nu := nu) (by omega) bat bfr bmany bopn bpes brf brp btk bva barg bop bpe
  rcases u2 with ⟨e, kf, pf, b1, b2, b3, b4, b5⟩ | ⟨e, L, b1, b2, b3, b4, b5⟩
  · obtain ⟨at2, codes2, cm2, fa2, fp2, nm2, num2, op2, pa2, pl2, sg2, wt2, code2, wa2, v0, v1, v2, v3, v4⟩ := read_s h hnm (by omega) hm b5 at0 codes cmp fa fp opn pa pl sg st wt code wa
    obtain ⟨w1, w2⟩ := v4 (by dsimp only; omega)
    dsimp only at w1 w2
    have hc : F_X11_rule (nI q) at0 codes cmp fa fp (nI n) (nI nm) num opn pa pl sg st wt code r wa rc rcode fresh = some (0, at2, codes2, cm2, fa2, fp2, 0, nI nm2, num2, op2, pa2, pl2, sg2, 8, wt2, code2, wa2, rc, rcode, fresh) := by
      unfold F_X11_rule
      rw [show (4 : Int32) = nI 4 from rfl, inside_n (by omega) (by omega), if_pos hq, Option.bind_some, if_neg one_ne, v0, Option.bind_some]
      dsimp only
      rw [if_neg (by rw [w1]; exact nI_ne0 (by omega) (by omega))]
    have hr : F_X12_rule (nI q) bat bfk bfp bfr bmany bopn bpes brf brp (nI n) btk btold bva barg bcm bop bpe r wd = some (0, at1, fa2, fp2, fr1, many1, opn1, pes1, rf1, rp1, 0, tk1, 0, va1, arg1, bcm, op1, pe1) := by
      unfold F_X12_rule
      rw [isRule_s, show (4 : Int32) = nI 4 from rfl, inside_n (by omega) (by omega), if_pos hq, Option.bind_some, if_neg one_ne, u0, Option.bind_some]
      dsimp only
      rw [if_pos e]
      unfold F_X12_rule_44 F_X12_rule_61
      rw [if_pos e, if_pos e, w1, w2, b1, b2]
    exact ⟨_, _, _, _, _, _, _, _, _, _, _, _, _, _, _, _, _, _, hc, v1, _, _, _, _, _, _, _, _, _, _, _, _, _, hr, Or.inl ⟨rfl, rfl, rfl, rfl, rfl, u1⟩⟩
  · obtain ⟨at2, codes2, cm2, fa2, fp2, nm2, num2, op2, pa2, pl2, sg2, wt2, code2, wa2, v0, v1, v2, v3, v4⟩ := read_s h hnm (by omega) hm b5 at0 codes cmp fa fp opn pa pl sg st wt code wa
    obtain ⟨w1, w2, w3, w4, w5⟩ := v3 rfl
    dsimp only at w3 w4 w5
    have hc : F_X11_rule (nI q) at0 codes cmp fa fp (nI n) (nI nm) num opn pa pl sg st wt code r wa rc rcode fresh = some (1, at2, codes2, cm2, fa2, fp2, 0, nI nm2, num2, op2, pa2, pl2, sg2, 8, wt2, code2, wa2, codes2, va_cpy code2 rcode 0 0 400, 0) := by
      unfold F_X11_rule
      rw [show (4 : Int32) = nI 4 from rfl, inside_n (by omega) (by omega), if_pos hq, Option.bind_some, if_neg one_ne, v0, Option.bind_some]
      dsimp only
      rw [if_pos w1, gin_n hq (by omega)]
      unfold F_X6_become gcp
      rw [if_pos (by decide), Option.bind_some]
      rfl
    obtain ⟨op', arg', q1, q2, q3⟩ := copy_loop (tape := r) (wd := wd) (r := q) (M := L.length) hq (by omega) at1 0 (-1) fr1 opn1 pes1 rf1 rp1 0 tk1 0 va1 (upd bcm q (nI L.length)) pe1 L.length 0 FU op1 arg1 (by omega) (by show _ < 100000; omega)
    have hr : F_X12_rule (nI q) bat bfk bfp bfr bmany bopn bpes brf brp (nI n) btk btold bva barg bcm bop bpe r wd = some (1, at1, fa2, fp2, fr1, nI L.length, opn1, pes1, rf1, rp1, 0, tk1, 0, va1, arg', upd bcm q (nI L.length), op', pe1) := by
      unfold F_X12_rule
      rw [isRule_s, show (4 : Int32) = nI 4 from rfl, inside_n (by omega) (by omega), if_pos hq, Option.bind_some, if_neg one_ne, u0, Option.bind_some]
      dsimp only
      rw [if_neg (by rw [e]; decide)]
      unfold F_X12_rule_44 F_X12_rule_61
      rw [if_neg (by rw [e]; decide), if_neg (by rw [e]; decide), gin_n (show q < 5 by omega) (by omega), nI_clamp (by omega), b1, w1, w2]
      exact q1
    refine ⟨_, _, _, _, _, _, _, _, _, _, _, _, _, _, _, _, _, _, hc, v1, _, _, _, _, _, _, _, _, _, _, _, _, _, hr, Or.inr ⟨rfl, rfl, ⟨L, ⟨b3, ?_, ?_⟩, w3, fun j c hj => ?_, upd_self _ _ _, fun j c hj => ?_⟩, fun q' hq' hne => ⟨upd_ne _ _ hne, fun j hj => ?_⟩⟩⟩
    · rcases b4 with z | z
      · subst z; exact fun c hc => (List.not_mem_nil hc).elim
      · exact z.1
    · exact b4.imp id (fun z => z.2)
    · have hjl := (List.getElem?_eq_some_iff.mp hj).1
      show (if 0 ≤ j ∧ j < 0 + 400 then code2 (0 + (j - 0)) else rcode j) = _
      rw [if_pos (by omega), Nat.sub_zero, Nat.zero_add]
      exact w4 j c hj
    · have hjl := (List.getElem?_eq_some_iff.mp hj).1
      rw [q2, q3, if_pos (by omega), if_pos (by omega), show 500 * q + j - 500 * q = j by omega]
      exact b2.1 j c hj
    · rw [q2, q3, if_neg (by omega), if_neg (by omega)]
      exact b2.2 (500 * q' + j) (by omega)
end RB
/-- rule of none such: the tape goes, nothing else -/
theorem rule_out {x : Int32} (hx : ¬ (0 ≤ x ∧ x < 4)) (r wd : Nat → Int32) (ln name num at0 codes cmp fa fp opn pa pl sg st wt : Int32) (code wa : Nat → Int32) (rc fresh : Int32) (rcode : Nat → Int32) (bat bfk bfp bfr bmany bopn bpes brf brp btp btk btold bva : Int32) (barg bcm bop bpe : Nat → Int32) :
    F_X11_rule x at0 codes cmp fa fp ln name num opn pa pl sg st wt code r wa rc rcode fresh = some (0, at0, codes, cmp, fa, fp, 0, name, num, opn, pa, pl, sg, st, wt, code, wa, rc, rcode, fresh) ∧
    F_X12_rule x bat bfk bfp bfr bmany bopn bpes brf brp btp btk btold bva barg bcm bop bpe r wd = some (0, bat, bfk, bfp, bfr, bmany, bopn, bpes, brf, brp, 0, btk, 0, bva, barg, bcm, bop, bpe) := by
  constructor
  · unfold F_X11_rule
    rw [inside_s, if_neg hx, Option.bind_some, if_pos rfl]
  · unfold F_X12_rule
    rw [isRule_s, inside_s, if_neg hx, Option.bind_some, if_pos rfl]
