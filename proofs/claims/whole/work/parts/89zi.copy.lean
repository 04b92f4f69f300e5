/-! the class's whole reading; the reference's copy of the draft -/
theorem read_s {r : Nat → Int32} {T : Nat → Nat} {n nm nu : Nat} (h : TxtIs r T n) (hnm : nm < 32) (hnu : nu < 16384) {num : Int32} (hm : (num &&& 16383) = nI nu) {out : Nat × Nat × List (Nat × Nat)} (hc : CR T n 0 (7, nm, 0, 0, 0, nu, [], []) out) (at0 codes cm fa fp op pa pl sg st wt : Int32) (code wa : Nat → Int32) :
    ReadOut out 0 (-1) (F_X5_read at0 codes cm fa fp (nI n) (nI nm) num op pa pl sg st wt code r wa) := by
  obtain ⟨f, hf⟩ := hc
  unfold F_X5_read
  exact read_loop h f 0 (7, nm, 0, 0, 0, nu, [], []) 0 FU num pl sg 0 (-1) code wa out ⟨trivial, rfl, (by decide : (0 : Nat) ≤ 8), rfl, fun _ => (by decide : rk (([] : List Nat).headD 0) ≤ 3), (by decide : ([] : List Nat).length + ([] : List (Nat × Nat)).length + (if (7 : Nat) = 3 then 1 else 0) ≤ 0), hnu, hnm, (by decide : (0 : Nat) ≤ 1), (by decide : (7 : Nat) ≤ 7)⟩ (Nat.zero_le n) (Nat.le_refl 0) (by show 402 < 0 + 100000; omega) hm (fun j c hj => by simp at hj) trivial hf
/-- rows shifted from the draft -/
def Copied (r M j : Nat) (a a' : Nat → Int32) : Prop := ∀ q, a' q = if 500 * r + j ≤ q ∧ q < 500 * r + M then a (2000 + (q - 500 * r)) else a q
theorem copy_loop {tape wd : Nat → Int32} {r M : Nat} (hr : r < 4) (hM : M ≤ 500) (at0 fk fp fr opn pes rf rp tp tk told va : Int32) (cm pe : Nat → Int32) : ∀ m j f (op arg : Nat → Int32), j + m = M → m < f →
    ∃ op' arg', F_X12_rule_83 (nI r) tape wd f (nI j) at0 fk fp fr (nI M) opn pes rf rp tp tk told va arg cm op pe = some (1, at0, fk, fp, fr, nI M, opn, pes, rf, rp, tp, tk, told, va, arg', cm, op', pe) ∧ Copied r M j op op' ∧ Copied r M j arg arg' := by
  intro m
  induction m with
  | zero =>
    intro j f op arg e hf
    obtain ⟨f, rfl⟩ : ∃ g, f = g + 1 := ⟨f - 1, by omega⟩
    rw [F_X12_rule_83, if_pos (nI_le (show M ≤ j by omega) (by omega))]
    exact ⟨op, arg, rfl, fun q => by rw [if_neg (by omega)], fun q => by rw [if_neg (by omega)]⟩
  | succ m ih =>
    intro j f op arg e hf
    obtain ⟨f, rfl⟩ : ∃ g, f = g + 1 := ⟨f - 1, by omega⟩
    rw [F_X12_rule_83, if_neg (nI_ge (show j < M by omega) (by omega)), show (2000 : Int32) = nI 2000 from rfl, show (500 : Int32) = nI 500 from rfl, pk_mul, nI_add, nI_add, gin_n (show 2000 + j < 2500 by omega) (by omega), gin_n (show 500 * r + j < 2500 by omega) (by omega), gin_n (show 2000 + j < 2500 by omega) (by omega), gin_n (show 500 * r + j < 2500 by omega) (by omega), nI_clamp (show 2000 + j < 2 ^ 31 by omega), nI_clamp (show 500 * r + j < 2 ^ 31 by omega), nI_1]
    obtain ⟨op', arg', q1, q2, q3⟩ := ih (j + 1) f (upd op (500 * r + j) (op (2000 + j))) (upd arg (500 * r + j) (arg (2000 + j))) (by omega) (by omega)
    have up : ∀ (a a' : Nat → Int32), Copied r M (j + 1) (upd a (500 * r + j) (a (2000 + j))) a' → Copied r M j a a' := by
      intro a a' hq q
      rw [hq q]
      by_cases c : 500 * r + (j + 1) ≤ q ∧ q < 500 * r + M
      · rw [if_pos c, if_pos (by omega), upd_ne _ _ (by omega)]
      · rw [if_neg c]
        by_cases d : q = 500 * r + j
        · subst d
          rw [upd_self, if_pos (by omega), show 500 * r + j - 500 * r = j by omega]
        · rw [upd_ne _ _ d, if_neg (by omega)]
    exact ⟨op', arg', q1, up op op' q2, up arg arg' q3⟩
