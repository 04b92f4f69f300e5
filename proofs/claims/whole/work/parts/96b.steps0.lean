set_option maxHeartbeats 1000000 in
theorem st_member {I : Nat → Int32} {R : Nat → Nat → Int32} {J : Nat → Int32} {Q : Nat → Nat → Int32} (h : Inv I R J Q) : ∃ o1, F_X11_member (I 0) = some o1 ∧ ∃ o2, F_X12_member (J 1) (J 0) = some o2 ∧ o1.1 = o2.1 ∧ Inv (up I 0 (o1.2)) R (up (up J 0 (o2.2.2)) 1 (o2.2.1)) Q := by
  obtain ⟨M, N, n, nm, hM, hN, hn, hnm, ⟨eM, eM'⟩, ⟨eN, eN'⟩, ⟨ev1, ev2⟩, ⟨e0, e1, e2, e3, e4⟩, hmem, hblo, hday, hS, ⟨el, el', et, hB, ena⟩, ⟨ef1, ef2⟩, hWd, r0, r1, r2, r3, hWi, epl, ⟨eva, hV⟩, hga⟩ := h
  obtain ⟨h1, h2⟩ := member_both hM (J 0)
  by_cases hm : M = 10
  · rw [if_pos hm, if_pos hm] at h1 h2
    refine ⟨(-1, nI M), ?_, (-1, nI M, 0), ?_, rfl, ?_⟩
    · first | exact h1 | (simp only [eM, eM', eN, eN', ev1, ev2, e0, e1, e2, e3, e4, el, el', et, ena, ef1, ef2, epl, eva]; exact h1)
    · first | exact h2 | (simp only [eM, eM', eN, eN', ev1, ev2, e0, e1, e2, e3, e4, el, el', et, ena, ef1, ef2, epl, eva]; exact h2)
    · exact ⟨M, N, n, nm, hM, hN, hn, hnm, ⟨(by first | exact eM | rfl), (by first | exact eM' | rfl)⟩, ⟨(by first | exact eN | rfl), (by first | exact eN' | rfl)⟩, ⟨(by first | exact ev1 | rfl), (by first | exact ev2 | rfl)⟩, ⟨(by first | exact e0 | rfl), (by first | exact e1 | rfl), (by first | exact e2 | rfl), (by first | exact e3 | rfl), (by first | exact e4 | rfl)⟩, hmem, hblo, hday, hS, ⟨(by first | exact el | rfl), (by first | exact el' | rfl), (by first | exact et | rfl), hB, (by first | exact ena | rfl)⟩, ⟨(by first | exact ef1 | rfl), (by first | exact ef2 | rfl)⟩, hWd, r0, r1, r2, r3, hWi, (by first | exact epl | rfl), ⟨(by first | exact eva | rfl), hV⟩, hga⟩
  · rw [if_neg hm, if_neg hm] at h1 h2
    refine ⟨(nI M, nI (M + 1)), ?_, (nI M, nI (M + 1), 0), ?_, rfl, ?_⟩
    · first | exact h1 | (simp only [eM, eM', eN, eN', ev1, ev2, e0, e1, e2, e3, e4, el, el', et, ena, ef1, ef2, epl, eva]; exact h1)
    · first | exact h2 | (simp only [eM, eM', eN, eN', ev1, ev2, e0, e1, e2, e3, e4, el, el', et, ena, ef1, ef2, epl, eva]; exact h2)
    · exact ⟨(M + 1), N, n, nm, (by omega), hN, hn, hnm, ⟨(by first | exact eM | rfl), (by first | exact eM' | rfl)⟩, ⟨(by first | exact eN | rfl), (by first | exact eN' | rfl)⟩, ⟨(by first | exact ev1 | rfl), (by first | exact ev2 | rfl)⟩, ⟨(by first | exact e0 | rfl), (by first | exact e1 | rfl), (by first | exact e2 | rfl), (by first | exact e3 | rfl), (by first | exact e4 | rfl)⟩, (fun i hi => by obtain ⟨mi, a, b⟩ := hmem i hi; exact ⟨mi, by omega, b⟩), hblo, hday, hS, ⟨(by first | exact el | rfl), (by first | exact el' | rfl), (by first | exact et | rfl), hB, (by first | exact ena | rfl)⟩, ⟨(by first | exact ef1 | rfl), (by first | exact ef2 | rfl)⟩, hWd, r0, r1, r2, r3, hWi, (by first | exact epl | rfl), ⟨(by first | exact eva | rfl), hV⟩, hga⟩
set_option maxHeartbeats 1000000 in
theorem st_shift {I : Nat → Int32} {R : Nat → Nat → Int32} {J : Nat → Int32} {Q : Nat → Nat → Int32} (h : Inv I R J Q) (x1 x2 x3 x4 x5 : Int32) : ∃ o1, F_X11_shift x1 x2 x3 x4 x5 (I 0) (I 1) (I 2) (I 3) (R 3) (R 1) (R 5) (R 0) (R 4) (R 2) (I 68) (I 69) (I 70) (I 71) (I 5) (I 4) (R 7) (R 6) = some o1 ∧ ∃ o2, F_X12_shift x1 x2 x3 x4 x5 (J 1) (J 2) (J 0) (Q 3) (Q 1) (Q 0) (Q 4) (Q 2) = some o2 ∧ o1.1 = o2.1 ∧ Inv (up (up (up (up (up (up (up I 3 (o1.2.1)) 4 (o1.2.2.2.2.2.2.2.2.2.2.2.2.2.1)) 5 (o1.2.2.2.2.2.2.2.2.2.2.2.2.1)) 68 (o1.2.2.2.2.2.2.2.2.1)) 69 (o1.2.2.2.2.2.2.2.2.2.1)) 70 (o1.2.2.2.2.2.2.2.2.2.2.1)) 71 (o1.2.2.2.2.2.2.2.2.2.2.2.1)) (up (up (up (up (up (up (up (up R 3 (o1.2.2.1)) 1 (o1.2.2.2.1)) 5 (o1.2.2.2.2.1)) 0 (o1.2.2.2.2.2.1)) 4 (o1.2.2.2.2.2.2.1)) 2 (o1.2.2.2.2.2.2.2.1)) 7 (o1.2.2.2.2.2.2.2.2.2.2.2.2.2.2.1)) 6 (o1.2.2.2.2.2.2.2.2.2.2.2.2.2.2.2)) (up (up J 0 (o2.2.2.1)) 2 (o2.2.1)) (up (up (up (up (up Q 3 (o2.2.2.2.1)) 1 (o2.2.2.2.2.1)) 0 (o2.2.2.2.2.2.1)) 4 (o2.2.2.2.2.2.2.1)) 2 (o2.2.2.2.2.2.2.2)) := by
  obtain ⟨M, N, n, nm, hM, hN, hn, hnm, ⟨eM, eM'⟩, ⟨eN, eN'⟩, ⟨ev1, ev2⟩, ⟨e0, e1, e2, e3, e4⟩, hmem, hblo, hday, hS, ⟨el, el', et, hB, ena⟩, ⟨ef1, ef2⟩, hWd, r0, r1, r2, r3, hWi, epl, ⟨eva, hV⟩, hga⟩ := h
  rcases shift_both hM hN hmem hblo (day := R 1) (tld := R 4) (wei := R 2) x1 x2 x3 x4 x5 (I 1) (I 2) (J 0) (I 68) (I 69) (I 70) (I 71) (I 5) (I 4) (R 5) (R 7) (R 6) with ⟨-, h1, h2⟩ | ⟨⟨c1, c2, c3, c4, c5, hlt, c7⟩, la', sal', sin', mo', sw', h1, h2, hS'⟩
  · refine ⟨(0, nI N, R 3, R 1, R 5, R 0, R 4, R 2, I 68, I 69, I 70, I 71, I 5, I 4, R 7, R 6), ?_, (0, nI N, 0, R 3, R 1, R 0, R 4, R 2), ?_, rfl, ?_⟩
    · first | exact h1 | (simp only [eM, eM', eN, eN', ev1, ev2, e0, e1, e2, e3, e4, el, el', et, ena, ef1, ef2, epl, eva]; exact h1)
    · first | exact h2 | (simp only [eM, eM', eN, eN', ev1, ev2, e0, e1, e2, e3, e4, el, el', et, ena, ef1, ef2, epl, eva]; exact h2)
    · exact ⟨M, N, n, nm, hM, hN, hn, hnm, ⟨(by first | exact eM | rfl), (by first | exact eM' | rfl)⟩, ⟨(by first | exact eN | rfl), (by first | exact eN' | rfl)⟩, ⟨(by first | exact ev1 | rfl), (by first | exact ev2 | rfl)⟩, ⟨(by first | exact e0 | rfl), (by first | exact e1 | rfl), (by first | exact e2 | rfl), (by first | exact e3 | rfl), (by first | exact e4 | rfl)⟩, hmem, hblo, hday, hS, ⟨(by first | exact el | rfl), (by first | exact el' | rfl), (by first | exact et | rfl), hB, (by first | exact ena | rfl)⟩, ⟨(by first | exact ef1 | rfl), (by first | exact ef2 | rfl)⟩, hWd, r0, r1, r2, r3, hWi, (by first | exact epl | rfl), ⟨(by first | exact eva | rfl), hV⟩, hga⟩
  · obtain ⟨mq, hm31, em⟩ := nI_of (Int32.not_lt.mpr c1.1)
    have hmq : mq < M := (nI_ltI hm31 (by omega)).mp (em ▸ c1.2)
    have hmem' : ∀ i, i < N + 1 → ∃ mi, mi < M ∧ (upd (R 0) N x1) i = nI mi := by
      intro i hi
      by_cases e : i = N
      · subst e; exact ⟨mq, hmq, by rw [upd_self]; exact em⟩
      · rw [upd_ne _ _ e]; exact hmem i (by omega)
    have hblo' : ∀ i, i < N + 1 → (upd (R 3) N x4) i = -1 ∨ ∃ b, b < 6 ∧ (upd (R 3) N x4) i = nI b := by
      intro i hi
      by_cases e : i = N
      · subst e
        rw [upd_self]
        rcases (bloc_in x4).mpr c4 with q | q
        · exact Or.inl q
        · obtain ⟨b, hb, eb⟩ := nI_of2 (x := x4) (M := 5) (n := 5) (by decide) (Int32.not_lt.mpr q.1) q.2
          exact Or.inr ⟨b, by omega, eb⟩
      · rw [upd_ne _ _ e]; exact hblo i (by omega)
    have hday' : ∀ i, i < N + 1 → ∃ e, e < 1000 ∧ (upd (R 1) N x2) i = nI e := by
      intro i hi
      by_cases e : i = N
      · subst e
        rw [upd_self]
        obtain ⟨b, hb, eb⟩ := nI_of2 (x := x2) (M := 999) (n := 999) (by decide) (Int32.not_lt.mpr c2.1) c2.2
        exact ⟨b, by omega, eb⟩
      · rw [upd_ne _ _ e]; exact hday i (by omega)
    refine ⟨(1, nI (N + 1), upd (R 3) N x4, upd (R 1) N x2, la', upd (R 0) N x1, upd (R 4) N x5, upd (R 2) N x3, 0, 0, 0, 0, sal', sin', mo', sw'), ?_, (1, nI (N + 1), 0, upd (R 3) N x4, upd (R 1) N x2, upd (R 0) N x1, upd (R 4) N x5, upd (R 2) N x3), ?_, rfl, ?_⟩
    · first | exact h1 | (simp only [eM, eM', eN, eN', ev1, ev2, e0, e1, e2, e3, e4, el, el', et, ena, ef1, ef2, epl, eva]; exact h1)
    · first | exact h2 | (simp only [eM, eM', eN, eN', ev1, ev2, e0, e1, e2, e3, e4, el, el', et, ena, ef1, ef2, epl, eva]; exact h2)
    · exact ⟨M, (N + 1), n, nm, hM, (by omega), hn, hnm, ⟨(by first | exact eM | rfl), (by first | exact eM' | rfl)⟩, ⟨(by first | exact eN | rfl), (by first | exact eN' | rfl)⟩, ⟨(by first | exact ev1 | rfl), (by first | exact ev2 | rfl)⟩, ⟨(by first | exact e0 | rfl), (by first | exact e1 | rfl), (by first | exact e2 | rfl), (by first | exact e3 | rfl), (by first | exact e4 | rfl)⟩, hmem', hblo', hday', hS', ⟨(by first | exact el | rfl), (by first | exact el' | rfl), (by first | exact et | rfl), hB, (by first | exact ena | rfl)⟩, ⟨(by first | exact ef1 | rfl), (by first | exact ef2 | rfl)⟩, hWd, (r0.stale _ _ _ _), (r1.stale _ _ _ _), (r2.stale _ _ _ _), (r3.stale _ _ _ _), hWi, (by first | exact epl | rfl), ⟨(by first | exact eva | rfl), hV⟩, hga⟩
set_option maxHeartbeats 1000000 in
theorem st_view {I : Nat → Int32} {R : Nat → Nat → Int32} {J : Nat → Int32} {Q : Nat → Nat → Int32} (h : Inv I R J Q) (x1 x2 : Int32) : ∃ o1, F_X11_view x1 x2 (I 1) (I 2) (I 3) (R 3) (R 1) (R 5) (R 0) (R 4) (R 2) (I 68) (I 69) (I 70) (I 71) (I 5) (I 4) (R 7) (R 6) = some o1 ∧ ∃ o2, F_X12_view x1 x2 (J 0) (J 3) (J 4) = some o2 ∧ o1.1 = o2.1 ∧ Inv (up (up (up (up (up (up (up (up I 1 (o1.2.1)) 2 (o1.2.2.1)) 4 (o1.2.2.2.2.2.2.2.2.2.1)) 5 (o1.2.2.2.2.2.2.2.2.1)) 68 (o1.2.2.2.2.1)) 69 (o1.2.2.2.2.2.1)) 70 (o1.2.2.2.2.2.2.1)) 71 (o1.2.2.2.2.2.2.2.1)) (up (up (up R 5 (o1.2.2.2.1)) 7 (o1.2.2.2.2.2.2.2.2.2.2.1)) 6 (o1.2.2.2.2.2.2.2.2.2.2.2)) (up (up (up J 0 (o2.2.1)) 3 (o2.2.2.1)) 4 (o2.2.2.2)) Q := by
  obtain ⟨M, N, n, nm, hM, hN, hn, hnm, ⟨eM, eM'⟩, ⟨eN, eN'⟩, ⟨ev1, ev2⟩, ⟨e0, e1, e2, e3, e4⟩, hmem, hblo, hday, hS, ⟨el, el', et, hB, ena⟩, ⟨ef1, ef2⟩, hWd, r0, r1, r2, r3, hWi, epl, ⟨eva, hV⟩, hga⟩ := h
  have hmem10 : ∀ i, i < N → ∃ mi, mi < 10 ∧ R 0 i = nI mi := fun i hi => by obtain ⟨mi, a, b⟩ := hmem i hi; exact ⟨mi, by omega, b⟩
  rcases view_both hN hmem10 hblo (day := R 1) (tld := R 4) (wei := R 2) x1 x2 (I 1) (I 2) (J 0) (I 68) (I 69) (I 70) (I 71) (I 5) (I 4) (R 5) (R 7) (R 6) with ⟨h1, h2⟩ | ⟨a, b, la', sal', sin', mo', sw', ha, hb, ea, eb, h1, h2, hS'⟩
  · refine ⟨(0, I 1, I 2, R 5, I 68, I 69, I 70, I 71, I 5, I 4, R 7, R 6), ?_, (0, 0, I 1, I 2), ?_, rfl, ?_⟩
    · first | exact h1 | (simp only [eM, eM', eN, eN', ev1, ev2, e0, e1, e2, e3, e4, el, el', et, ena, ef1, ef2, epl, eva]; exact h1)
    · first | exact h2 | (simp only [eM, eM', eN, eN', ev1, ev2, e0, e1, e2, e3, e4, el, el', et, ena, ef1, ef2, epl, eva]; exact h2)
    · exact ⟨M, N, n, nm, hM, hN, hn, hnm, ⟨(by first | exact eM | rfl), (by first | exact eM' | rfl)⟩, ⟨(by first | exact eN | rfl), (by first | exact eN' | rfl)⟩, ⟨(by first | exact ev1 | rfl), (by first | exact ev2 | rfl)⟩, ⟨(by first | exact e0 | rfl), (by first | exact e1 | rfl), (by first | exact e2 | rfl), (by first | exact e3 | rfl), (by first | exact e4 | rfl)⟩, hmem, hblo, hday, hS, ⟨(by first | exact el | rfl), (by first | exact el' | rfl), (by first | exact et | rfl), hB, (by first | exact ena | rfl)⟩, ⟨(by first | exact ef1 | rfl), (by first | exact ef2 | rfl)⟩, hWd, r0, r1, r2, r3, hWi, (by first | exact epl | rfl), ⟨(by first | exact eva | rfl), hV⟩, hga⟩
  · refine ⟨(1, x1, x2, la', 0, 0, 0, 0, sal', sin', mo', sw'), ?_, (1, 0, x1, x2), ?_, rfl, ?_⟩
    · first | exact h1 | (simp only [eM, eM', eN, eN', ev1, ev2, e0, e1, e2, e3, e4, el, el', et, ena, ef1, ef2, epl, eva]; exact h1)
    · first | exact h2 | (simp only [eM, eM', eN, eN', ev1, ev2, e0, e1, e2, e3, e4, el, el', et, ena, ef1, ef2, epl, eva]; exact h2)
    · exact ⟨M, N, n, nm, hM, hN, hn, hnm, ⟨(by first | exact eM | rfl), (by first | exact eM' | rfl)⟩, ⟨(by first | exact eN | rfl), (by first | exact eN' | rfl)⟩, ⟨(by first | exact ev1 | rfl), (by first | exact ev2 | rfl)⟩, ⟨(by first | exact e0 | rfl), (by first | exact e1 | rfl), (by first | exact e2 | rfl), (by first | exact e3 | rfl), (by first | exact e4 | rfl)⟩, hmem, hblo, hday, hS', ⟨(by first | exact el | rfl), (by first | exact el' | rfl), (by first | exact et | rfl), hB, (by first | exact ena | rfl)⟩, ⟨(by first | exact ef1 | rfl), (by first | exact ef2 | rfl)⟩, hWd, (r0.stale _ _ _ _), (r1.stale _ _ _ _), (r2.stale _ _ _ _), (r3.stale _ _ _ _), hWi, (by first | exact epl | rfl), ⟨(by first | exact eva | rfl), hV⟩, hga⟩
set_option maxHeartbeats 1000000 in
theorem st_of {I : Nat → Int32} {R : Nat → Nat → Int32} {J : Nat → Int32} {Q : Nat → Nat → Int32} (h : Inv I R J Q) (x1 x2 : Int32) : ∃ o1, F_X11_of x1 x2 (I 0) (R 19) (I 4) (R 7) (R 6) = some o1 ∧ ∃ o2, F_X12_of x1 x2 (J 5) (J 6) (J 1) (J 2) (J 0) (J 3) (J 4) (J 7) (Q 8) (Q 6) (Q 3) (Q 1) (Q 0) (Q 4) (Q 2) (Q 7) (Q 5) = some o2 ∧ o1 = o2.1 ∧ Inv I R (up (up (up (up J 0 (o2.2.2.2.1)) 5 (o2.2.1)) 6 (o2.2.2.1)) 7 (o2.2.2.2.2.1)) (up (up Q 8 (o2.2.2.2.2.2.1)) 7 (o2.2.2.2.2.2.2)) := by
  obtain ⟨M, N, n, nm, hM, hN, hn, hnm, ⟨eM, eM'⟩, ⟨eN, eN'⟩, ⟨ev1, ev2⟩, ⟨e0, e1, e2, e3, e4⟩, hmem, hblo, hday, hS, ⟨el, el', et, hB, ena⟩, ⟨ef1, ef2⟩, hWd, r0, r1, r2, r3, hWi, epl, ⟨eva, hV⟩, hga⟩ := h
  have hFi : Firsts (R 19) (Q 6) (Q 5) := hWi.firsts
  obtain ⟨a, h1, o2, h2⟩ := of_both hM hN hmem hblo hS hFi x1 x2 (J 5) (J 6) (J 7) (J 0) (Q 8) (Q 7)
  refine ⟨a, ?_, (a, o2), ?_, rfl, ?_⟩
  · first | exact h1 | (simp only [eM, eM', eN, eN', ev1, ev2, e0, e1, e2, e3, e4, el, el', et, ena, ef1, ef2, epl, eva]; exact h1)
  · first | exact h2 | (simp only [eM, eM', eN, eN', ev1, ev2, e0, e1, e2, e3, e4, el, el', et, ena, ef1, ef2, epl, eva]; exact h2)
  · exact ⟨M, N, n, nm, hM, hN, hn, hnm, ⟨(by first | exact eM | rfl), (by first | exact eM' | rfl)⟩, ⟨(by first | exact eN | rfl), (by first | exact eN' | rfl)⟩, ⟨(by first | exact ev1 | rfl), (by first | exact ev2 | rfl)⟩, ⟨(by first | exact e0 | rfl), (by first | exact e1 | rfl), (by first | exact e2 | rfl), (by first | exact e3 | rfl), (by first | exact e4 | rfl)⟩, hmem, hblo, hday, hS, ⟨(by first | exact el | rfl), (by first | exact el' | rfl), (by first | exact et | rfl), hB, (by first | exact ena | rfl)⟩, ⟨(by first | exact ef1 | rfl), (by first | exact ef2 | rfl)⟩, hWd, r0, r1, r2, r3, hWi, (by first | exact epl | rfl), ⟨(by first | exact eva | rfl), hV⟩, hga⟩
set_option maxHeartbeats 1000000 in
theorem st_look {I : Nat → Int32} {R : Nat → Nat → Int32} {J : Nat → Int32} {Q : Nat → Nat → Int32} (h : Inv I R J Q) (x1 : Int32) : ∃ o1, F_X11_look x1 (I 0) (I 1) (I 2) (I 3) (I 4) (R 7) = some o1 ∧ ∃ o2, F_X12_look x1 (J 5) (J 6) (J 1) (J 2) (J 0) (J 3) (J 4) (J 7) (Q 8) (Q 3) (Q 1) (Q 0) (Q 4) (Q 2) (Q 7) = some o2 ∧ o1 = o2.1 ∧ Inv I R (up (up (up (up J 0 (o2.2.2.2.1)) 5 (o2.2.1)) 6 (o2.2.2.1)) 7 (o2.2.2.2.2.1)) (up (up Q 8 (o2.2.2.2.2.2.1)) 7 (o2.2.2.2.2.2.2)) := by
  obtain ⟨M, N, n, nm, hM, hN, hn, hnm, ⟨eM, eM'⟩, ⟨eN, eN'⟩, ⟨ev1, ev2⟩, ⟨e0, e1, e2, e3, e4⟩, hmem, hblo, hday, hS, ⟨el, el', et, hB, ena⟩, ⟨ef1, ef2⟩, hWd, r0, r1, r2, r3, hWi, epl, ⟨eva, hV⟩, hga⟩ := h
  obtain ⟨a, h1, o2, h2⟩ := look_both hM hN hmem hblo hS x1 (J 5) (J 6) (J 7) (J 0) (Q 8) (Q 7)
  refine ⟨a, ?_, (a, o2), ?_, rfl, ?_⟩
  · first | exact h1 | (simp only [eM, eM', eN, eN', ev1, ev2, e0, e1, e2, e3, e4, el, el', et, ena, ef1, ef2, epl, eva]; exact h1)
  · first | exact h2 | (simp only [eM, eM', eN, eN', ev1, ev2, e0, e1, e2, e3, e4, el, el', et, ena, ef1, ef2, epl, eva]; exact h2)
  · exact ⟨M, N, n, nm, hM, hN, hn, hnm, ⟨(by first | exact eM | rfl), (by first | exact eM' | rfl)⟩, ⟨(by first | exact eN | rfl), (by first | exact eN' | rfl)⟩, ⟨(by first | exact ev1 | rfl), (by first | exact ev2 | rfl)⟩, ⟨(by first | exact e0 | rfl), (by first | exact e1 | rfl), (by first | exact e2 | rfl), (by first | exact e3 | rfl), (by first | exact e4 | rfl)⟩, hmem, hblo, hday, hS, ⟨(by first | exact el | rfl), (by first | exact el' | rfl), (by first | exact et | rfl), hB, (by first | exact ena | rfl)⟩, ⟨(by first | exact ef1 | rfl), (by first | exact ef2 | rfl)⟩, hWd, r0, r1, r2, r3, hWi, (by first | exact epl | rfl), ⟨(by first | exact eva | rfl), hV⟩, hga⟩
set_option maxHeartbeats 1000000 in
theorem st_feed {I : Nat → Int32} {R : Nat → Nat → Int32} {J : Nat → Int32} {Q : Nat → Nat → Int32} (h : Inv I R J Q) (x1 x2 x3 x4 x5 : Int32) : ∃ o1, F_X11_feed x1 x2 x3 x4 x5 (I 8) (R 10) = some o1 ∧ ∃ o2, F_X12_feed x1 x2 x3 x4 x5 (J 8) (J 0) (Q 9) = some o2 ∧ o1.1 = o2.1 ∧ Inv (up I 8 (o1.2.1)) (up R 10 (o1.2.2)) (up (up J 0 (o2.2.2.1)) 8 (o2.2.1)) (up Q 9 (o2.2.2.2)) := by
  obtain ⟨M, N, n, nm, hM, hN, hn, hnm, ⟨eM, eM'⟩, ⟨eN, eN'⟩, ⟨ev1, ev2⟩, ⟨e0, e1, e2, e3, e4⟩, hmem, hblo, hday, hS, ⟨el, el', et, hB, ena⟩, ⟨ef1, ef2⟩, hWd, r0, r1, r2, r3, hWi, epl, ⟨eva, hV⟩, hga⟩ := h
  obtain ⟨a, n', r', hn', hB', h1, h2⟩ := feed_both hn x1 x2 x3 x4 x5 (J 0) hB
  refine ⟨(a, nI n', r'), ?_, (a, nI n', 0, r'), ?_, rfl, ?_⟩
  · first | exact h1 | (simp only [eM, eM', eN, eN', ev1, ev2, e0, e1, e2, e3, e4, el, el', et, ena, ef1, ef2, epl, eva]; exact h1)
  · first | exact h2 | (simp only [eM, eM', eN, eN', ev1, ev2, e0, e1, e2, e3, e4, el, el', et, ena, ef1, ef2, epl, eva]; exact h2)
  · exact ⟨M, N, n', nm, hM, hN, hn', hnm, ⟨(by first | exact eM | rfl), (by first | exact eM' | rfl)⟩, ⟨(by first | exact eN | rfl), (by first | exact eN' | rfl)⟩, ⟨(by first | exact ev1 | rfl), (by first | exact ev2 | rfl)⟩, ⟨(by first | exact e0 | rfl), (by first | exact e1 | rfl), (by first | exact e2 | rfl), (by first | exact e3 | rfl), (by first | exact e4 | rfl)⟩, hmem, hblo, hday, hS, ⟨(by first | exact el | rfl), (by first | exact el' | rfl), (by first | exact et | rfl), hB', (by first | exact ena | rfl)⟩, ⟨(by first | exact ef1 | rfl), (by first | exact ef2 | rfl)⟩, hWd, r0, r1, r2, r3, hWi, (by first | exact epl | rfl), ⟨(by first | exact eva | rfl), hV⟩, hga⟩
set_option maxHeartbeats 1000000 in
theorem st_end {I : Nat → Int32} {R : Nat → Nat → Int32} {J : Nat → Int32} {Q : Nat → Nat → Int32} (h : Inv I R J Q) (x1 : Int32) : ∃ o1, F_X11_end x1 (I 8) = some o1 ∧ ∃ o2, F_X12_end x1 (J 8) (J 0) = some o2 ∧ o1.1 = o2.1 ∧ Inv (up I 8 (o1.2)) R (up (up J 0 (o2.2.2)) 8 (o2.2.1)) Q := by
  obtain ⟨M, N, n, nm, hM, hN, hn, hnm, ⟨eM, eM'⟩, ⟨eN, eN'⟩, ⟨ev1, ev2⟩, ⟨e0, e1, e2, e3, e4⟩, hmem, hblo, hday, hS, ⟨el, el', et, hB, ena⟩, ⟨ef1, ef2⟩, hWd, r0, r1, r2, r3, hWi, epl, ⟨eva, hV⟩, hga⟩ := h
  obtain ⟨o, h1, h2, h3⟩ := end_both x1 (nI n) (J 0)
  rcases h3 with rfl | ⟨a1, a2, rfl⟩
  · refine ⟨(0, nI n), ?_, (0, nI n, 0), ?_, rfl, ?_⟩
    · first | exact h1 | (simp only [eM, eM', eN, eN', ev1, ev2, e0, e1, e2, e3, e4, el, el', et, ena, ef1, ef2, epl, eva]; exact h1)
    · first | exact h2 | (simp only [eM, eM', eN, eN', ev1, ev2, e0, e1, e2, e3, e4, el, el', et, ena, ef1, ef2, epl, eva]; exact h2)
    · exact ⟨M, N, n, nm, hM, hN, hn, hnm, ⟨(by first | exact eM | rfl), (by first | exact eM' | rfl)⟩, ⟨(by first | exact eN | rfl), (by first | exact eN' | rfl)⟩, ⟨(by first | exact ev1 | rfl), (by first | exact ev2 | rfl)⟩, ⟨(by first | exact e0 | rfl), (by first | exact e1 | rfl), (by first | exact e2 | rfl), (by first | exact e3 | rfl), (by first | exact e4 | rfl)⟩, hmem, hblo, hday, hS, ⟨(by first | exact el | rfl), (by first | exact el' | rfl), (by first | exact et | rfl), hB, (by first | exact ena | rfl)⟩, ⟨(by first | exact ef1 | rfl), (by first | exact ef2 | rfl)⟩, hWd, r0, r1, r2, r3, hWi, (by first | exact epl | rfl), ⟨(by first | exact eva | rfl), hV⟩, hga⟩
  · obtain ⟨k, hk, rfl⟩ := nI_of (Int32.not_lt.mpr a1)
    have hkn : k ≤ n := (nI_leI hk (by omega)).mp a2
    refine ⟨(1, nI k), ?_, (1, nI k, 0), ?_, rfl, ?_⟩
    · first | exact h1 | (simp only [eM, eM', eN, eN', ev1, ev2, e0, e1, e2, e3, e4, el, el', et, ena, ef1, ef2, epl, eva]; exact h1)
    · first | exact h2 | (simp only [eM, eM', eN, eN', ev1, ev2, e0, e1, e2, e3, e4, el, el', et, ena, ef1, ef2, epl, eva]; exact h2)
    · exact ⟨M, N, k, nm, hM, hN, (by omega), hnm, ⟨(by first | exact eM | rfl), (by first | exact eM' | rfl)⟩, ⟨(by first | exact eN | rfl), (by first | exact eN' | rfl)⟩, ⟨(by first | exact ev1 | rfl), (by first | exact ev2 | rfl)⟩, ⟨(by first | exact e0 | rfl), (by first | exact e1 | rfl), (by first | exact e2 | rfl), (by first | exact e3 | rfl), (by first | exact e4 | rfl)⟩, hmem, hblo, hday, hS, ⟨(by first | exact el | rfl), (by first | exact el' | rfl), (by first | exact et | rfl), hB, (by first | exact ena | rfl)⟩, ⟨(by first | exact ef1 | rfl), (by first | exact ef2 | rfl)⟩, hWd, r0, r1, r2, r3, hWi, (by first | exact epl | rfl), ⟨(by first | exact eva | rfl), hV⟩, hga⟩
set_option maxHeartbeats 1000000 in
theorem st_fault {I : Nat → Int32} {R : Nat → Nat → Int32} {J : Nat → Int32} {Q : Nat → Nat → Int32} (h : Inv I R J Q) (x1 : Int32) : ∃ o1, F_X11_fault x1 (I 11) (I 12) = some o1 ∧ ∃ o2, F_X12_fault x1 (J 18) (J 19) (J 0) = some o2 ∧ o1 = o2.1 ∧ Inv I R (up J 0 (o2.2)) Q := by
  obtain ⟨M, N, n, nm, hM, hN, hn, hnm, ⟨eM, eM'⟩, ⟨eN, eN'⟩, ⟨ev1, ev2⟩, ⟨e0, e1, e2, e3, e4⟩, hmem, hblo, hday, hS, ⟨el, el', et, hB, ena⟩, ⟨ef1, ef2⟩, hWd, r0, r1, r2, r3, hWi, epl, ⟨eva, hV⟩, hga⟩ := h
  obtain ⟨o, h1, h2⟩ := fault_both x1 (I 11) (I 12) (J 0)
  refine ⟨o, ?_, (o, 0), ?_, rfl, ?_⟩
  · first | exact h1 | (simp only [eM, eM', eN, eN', ev1, ev2, e0, e1, e2, e3, e4, el, el', et, ena, ef1, ef2, epl, eva]; exact h1)
  · first | exact h2 | (simp only [eM, eM', eN, eN', ev1, ev2, e0, e1, e2, e3, e4, el, el', et, ena, ef1, ef2, epl, eva]; exact h2)
  · exact ⟨M, N, n, nm, hM, hN, hn, hnm, ⟨(by first | exact eM | rfl), (by first | exact eM' | rfl)⟩, ⟨(by first | exact eN | rfl), (by first | exact eN' | rfl)⟩, ⟨(by first | exact ev1 | rfl), (by first | exact ev2 | rfl)⟩, ⟨(by first | exact e0 | rfl), (by first | exact e1 | rfl), (by first | exact e2 | rfl), (by first | exact e3 | rfl), (by first | exact e4 | rfl)⟩, hmem, hblo, hday, hS, ⟨(by first | exact el | rfl), (by first | exact el' | rfl), (by first | exact et | rfl), hB, (by first | exact ena | rfl)⟩, ⟨(by first | exact ef1 | rfl), (by first | exact ef2 | rfl)⟩, hWd, r0, r1, r2, r3, hWi, (by first | exact epl | rfl), ⟨(by first | exact eva | rfl), hV⟩, hga⟩
