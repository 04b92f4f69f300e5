def RI (sin sal : Int32) (mo sw : Nat → Int32) (r : Nat) (codes ti fr ts : Int32) (code bits tr cm op arg : Nat → Int32) : Prop := ∃ L, RuleIs L codes code r cm op arg ∧ TabOk sin sal mo sw L fr ti bits ∧ TrdOk sin fr ts bits tr
theorem RI.stale {sin sal : Int32} {mo sw : Nat → Int32} {r : Nat} {codes ti fr ts : Int32} {code bits tr cm op arg : Nat → Int32} (h : RI sin sal mo sw r codes ti fr ts code bits tr cm op arg) (sin' sal' : Int32) (mo' sw' : Nat → Int32) : RI sin' sal' mo' sw' r codes ti 0 ts code bits tr cm op arg := by
  obtain ⟨L, h1, -, -⟩ := h
  exact ⟨L, h1, fun h => absurd rfl h, fun h => absurd rfl h⟩
theorem RI.other {sin sal : Int32} {mo sw : Nat → Int32} {r : Nat} {codes ti fr ts : Int32} {code bits tr cm op arg cm' op' arg' : Nat → Int32} (h : RI sin sal mo sw r codes ti fr ts code bits tr cm op arg) (h1 : cm' r = cm r) (h2 : ∀ j, j < 500 → op' (500 * r + j) = op (500 * r + j) ∧ arg' (500 * r + j) = arg (500 * r + j)) : RI sin sal mo sw r codes ti fr ts code bits tr cm' op' arg' := by
  obtain ⟨L, ⟨a1, a2, a3, a4, a5⟩, b, c⟩ := h
  refine ⟨L, ⟨a1, a2, a3, by rw [h1]; exact a4, fun j q hj => ?_⟩, b, c⟩
  have hl : j < L.length := (List.getElem?_eq_some_iff.mp hj).1
  have h4 : L.length ≤ 400 := a1.1
  obtain ⟨e1, e2⟩ := h2 j (by omega)
  rw [e1, e2]
  exact a5 j q hj
theorem TrdOk.next {sin fr ts fr' ts' : Int32} {bits bits' tr : Nat → Int32} (h : TrdOk sin fr ts bits tr) (h2 : ts' = 0 ∨ (ts' = ts ∧ bits' = bits ∧ fr' = fr)) : TrdOk sin fr' ts' bits' tr := by
  rcases h2 with e | ⟨e1, e2, e3⟩
  · exact fun _ q => absurd e q
  · rw [e1, e2, e3]; exact h
/-- the class and the reference agree -/
def Inv (I : Nat → Int32) (R : Nat → Nat → Int32) (J : Nat → Int32) (Q : Nat → Nat → Int32) : Prop :=
  ∃ M N n nm : Nat, M ≤ 10 ∧ N ≤ 200 ∧ n ≤ 400 ∧ nm < 32 ∧ (I 0 = nI M ∧ J 1 = nI M) ∧ (I 3 = nI N ∧ J 2 = nI N) ∧ (J 3 = I 1 ∧ J 4 = I 2) ∧ (Q 0 = R 0 ∧ Q 1 = R 1 ∧ Q 2 = R 2 ∧ Q 3 = R 3 ∧ Q 4 = R 4) ∧
  (∀ i, i < N → ∃ mi, mi < M ∧ R 0 i = nI mi) ∧ (∀ i, i < N → R 3 i = -1 ∨ ∃ b, b < 6 ∧ R 3 i = nI b) ∧ (∀ i, i < N → ∃ e, e < 1000 ∧ R 1 i = nI e) ∧ Seated (R 0) (R 1) (R 4) (R 3) (R 2) (I 1) (I 2) N (I 4) (I 5) (R 7) (R 6) ∧
  (I 8 = nI n ∧ J 8 = nI n ∧ Q 9 = R 10 ∧ Bytes (R 10) ∧ I 18 = nI nm) ∧ (J 18 = I 11 ∧ J 19 = I 12) ∧ WordsIs (Q 10) ∧
  RI (I 4) (I 5) (R 7) (R 6) 0 (I 60) (I 64) (I 68) (I 72) (R 60) (R 68) (R 72) (Q 11) (Q 12) (Q 13) ∧
  RI (I 4) (I 5) (R 7) (R 6) 1 (I 61) (I 65) (I 69) (I 73) (R 61) (R 69) (R 73) (Q 11) (Q 12) (Q 13) ∧
  RI (I 4) (I 5) (R 7) (R 6) 2 (I 62) (I 66) (I 70) (I 74) (R 62) (R 70) (R 74) (Q 11) (Q 12) (Q 13) ∧
  RI (I 4) (I 5) (R 7) (R 6) 3 (I 63) (I 67) (I 71) (I 75) (R 63) (R 71) (R 75) (Q 11) (Q 12) (Q 13) ∧
  WishOk (R 19) (R 20) (Q 6) (Q 5) ∧ Q 22 = R 25 ∧ (Q 24 = R 26 ∧ Vals (R 26)) ∧ (∀ b, b < 6 → R 33 b = 0)
theorem pick4 (x : Int32) : ∃ r, r < 4 ∧ (vp_in x 4 → x.toNatClampNeg = r) ∧ (∀ q, q < 4 → x = nI q → q = r) := by
  by_cases h : vp_in x 4
  · refine ⟨x.toNatClampNeg, Nat.not_le.mp fun q => h (Or.inr q), fun _ => rfl, fun q hq e => ?_⟩
    rw [e]; exact (nI_clamp (by omega)).symm
  · refine ⟨0, by decide, fun q => absurd q h, fun q hq e => absurd (by rw [e]; exact vp_in_nI hq (by decide)) h⟩
theorem Bytes.txt {r : Nat → Int32} (h : Bytes r) {n : Nat} (hn : n ≤ 400) : TxtIs r (fun j => (r j).toNatClampNeg) n := by
  refine ⟨hn, fun j hj => ?_⟩
  obtain ⟨v, hv, e⟩ := h j (by omega)
  have e2 : (r j).toNatClampNeg = v := by rw [e]; exact nI_clamp (by omega)
  show r j = nI (r j).toNatClampNeg ∧ (r j).toNatClampNeg < 256
  rw [e2]; exact ⟨e, hv⟩
