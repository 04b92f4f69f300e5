/-! trade: what the class's trader finds -/
section SK
variable {kin : Nat} {bits : Nat → Int32}
theorem lst_idx {b : Bool} {n x : Nat} (h : x ∈ lst b kin bits n) : ∃ i : Nat, (lst b kin bits n)[i]? = some x := List.mem_iff_getElem?.mp h
theorem lst_ord {b : Bool} {n i j x y : Nat} (hx : (lst b kin bits n)[i]? = some x) (hy : (lst b kin bits n)[j]? = some y) (h : x < y) : i < j := by
  rcases Nat.lt_trichotomy i j with q | q | q
  · exact q
  · subst q; rw [hx] at hy; cases hy; omega
  · have := lst_lt q hy hx; omega
theorem lst_two {b : Bool} {n x y : Nat} (hx : x ∈ lst b kin bits n) (hy : y ∈ lst b kin bits n) (h : x < y) : 1 < (lst b kin bits n).length := by
  obtain ⟨i, hi⟩ := lst_idx hx
  obtain ⟨j, hj⟩ := lst_idx hy
  have h1 := lst_ord hi hj h
  have h2 := (List.getElem?_eq_some_iff.mp hj).1
  omega
theorem seek10_s (hk : kin < 1024) (hT : ∀ j, j < 1024 → tb bits j = true → j &&& kin = j) (ts cc cn : Int32) (tr fi se su : Nat → Int32) :
    ∃ tr' cc' cn' fi' se' su', F_X10_seek (nI kin) ts bits tr cc cn fi se su = some (1, tr', cc', cn', fi', se', su') ∧ TrOut kin bits tr' := by
  have hlen := lst_both (kin := kin) (bits := bits) 1024
  have hL : (lst true kin bits 1024 ++ lst false kin bits 1024).length ≤ 1024 := by rw [List.length_append]; exact hlen
  obtain ⟨fi1, se1, l1, r1⟩ := list_s (b := true) (bits := bits) hk [] (by simp only [List.nil_append]; omega) fi se (fun i x hx => by simp at hx)
  rw [show (if true = true then (1 : Int32) else 0) = 1 from rfl, show nI ([] : List Nat).length = (0 : Int32) from nI_0, List.nil_append] at l1
  rw [List.nil_append] at r1
  obtain ⟨fi2, se2, l2, r2⟩ := list_s (b := false) (bits := bits) hk (lst true kin bits 1024) hL fi1 se1 r1
  rw [show (if false = true then (1 : Int32) else 0) = 0 from rfl] at l2
  have hC : ∀ a, a < 1024 → tb bits a = true → a ∈ lst true kin bits 1024 := fun a h1 h2 => lst_mem.mpr ⟨h1, hT a h1 h2, h2⟩
  have hD : ∀ a, ncr kin bits a → a ∈ lst false kin bits 1024 := fun a h => lst_mem.mpr ⟨Nat.lt_of_le_of_lt (sub_le h.1) hk, h.1, h.2⟩
  have none_out : ∀ (hno : ∀ a b, a < b → b < 1024 → tb bits a = true → tb bits b = true → ∀ c, ¬ LosP kin bits c (thr a 10 + thr b 10)), TrOut kin bits (fill_row (-1) 4 tr) := fun hno => Or.inl ⟨hno, rfl, rfl, rfl, rfl⟩
  unfold F_X10_seek
  rw [fill_ok (-1) tr (by omega), Option.bind_some, l1, Option.bind_some]
  dsimp only
  rw [l2, Option.bind_some]
  dsimp only
  generalize hc1 : (lst true kin bits 1024).length = c1 at *
  have hn1 : (lst true kin bits 1024 ++ lst false kin bits 1024).length = c1 + (lst false kin bits 1024).length := by rw [List.length_append, hc1]
  rw [hn1] at hL ⊢
  by_cases q1 : c1 ≤ 1
  · rw [if_pos (show nI c1 ≤ (1 : Int32) from nI_le (b := 1) q1 (by omega))]
    refine ⟨_, _, _, _, _, _, rfl, none_out (fun a b hab hb ta tbb => ?_)⟩
    have := lst_two (hC a (by omega) ta) (hC b hb tbb) hab
    omega
  · rw [if_neg (show ¬ nI c1 ≤ (1 : Int32) from nI_ge (a := 1) (by omega) (by omega))]
    rw [pk_sub (show c1 ≤ c1 + (lst false kin bits 1024).length by omega), Nat.add_sub_cancel_left]
    by_cases q2 : (lst false kin bits 1024).length ≤ 1
    · rw [if_pos (show nI (lst false kin bits 1024).length ≤ (1 : Int32) from nI_le (b := 1) q2 (by omega))]
      refine ⟨_, _, _, _, _, _, rfl, none_out (fun a b hab hb ta tbb c hl => ?_)⟩
      obtain ⟨h1, d, h2, -, h3, -⟩ := hl
      have := lst_two (hD c h1) (hD d h3) h2
      omega
    · rw [if_neg (show ¬ nI (lst false kin bits 1024).length ≤ (1 : Int32) from nI_ge (a := 1) (by omega) (by omega))]
      let h : Nat → Nat := fun i => ((lst true kin bits 1024 ++ lst false kin bits 1024)[i]?).getD 0
      have hval : ∀ i x, (lst true kin bits 1024 ++ lst false kin bits 1024)[i]? = some x → h i = x := fun i x e => by
        show ((lst true kin bits 1024 ++ lst false kin bits 1024)[i]?).getD 0 = x
        rw [e]; rfl
      have hsome : ∀ i, i < c1 + (lst false kin bits 1024).length → (lst true kin bits 1024 ++ lst false kin bits 1024)[i]? = some (h i) := fun i hi => by
        have e := List.getElem?_eq_getElem (l := lst true kin bits 1024 ++ lst false kin bits 1024) (i := i) (by rw [hn1]; exact hi)
        rw [e, hval i _ e]
      have hlo : ∀ i, i < c1 → (lst true kin bits 1024)[i]? = some (h i) := fun i hi => by
        rw [← hsome i (by omega), List.getElem?_append_left (by omega)]
      have hhi : ∀ i, (lst false kin bits 1024)[i]? = (lst true kin bits 1024 ++ lst false kin bits 1024)[c1 + i]? := fun i => by
        rw [List.getElem?_append_right (by omega), hc1, Nat.add_sub_cancel_left]
      have hg : ∀ i, thr (h i) 10 ≤ 29524 := fun i => thr_10 _
      have hmemC : ∀ i, i < c1 → h i < 1024 ∧ h i &&& kin = h i ∧ tb bits (h i) = true := fun i hi => lst_mem.mp (List.mem_of_getElem? (hlo i hi))
      have hmemD : ∀ i, c1 ≤ i → i < c1 + (lst false kin bits 1024).length → h i < 1024 ∧ h i &&& kin = h i ∧ tb bits (h i) = false := fun i h1 h2 => by
        have e := hhi (i - c1)
        rw [show c1 + (i - c1) = i by omega, hsome i h2] at e
        exact lst_mem.mp (List.mem_of_getElem? e)
      have hidxC : ∀ a, a < 1024 → tb bits a = true → ∃ i, i < c1 ∧ h i = a := fun a h1 h2 => by
        obtain ⟨i, hi⟩ := lst_idx (hC a h1 h2)
        have hlt := (List.getElem?_eq_some_iff.mp hi).1
        refine ⟨i, by omega, ?_⟩
        rw [hlo i (by omega)] at hi
        exact Option.some.inj hi
      have hidxD : ∀ a, ncr kin bits a → ∃ i, c1 ≤ i ∧ i < c1 + (lst false kin bits 1024).length ∧ h i = a := fun a h1 => by
        obtain ⟨i, hi⟩ := lst_idx (hD a h1)
        have hlt := (List.getElem?_eq_some_iff.mp hi).1
        refine ⟨c1 + i, by omega, by omega, ?_⟩
        rw [hhi i] at hi
        exact hval _ _ hi
      have ordC : ∀ i j, i < c1 → j < c1 → (h i < h j ↔ i < j) := fun i j hi hj => ⟨fun z => lst_ord (hlo i hi) (hlo j hj) z, fun z => lst_lt z (hlo i hi) (hlo j hj)⟩
      have ordD : ∀ i j, c1 ≤ i → c1 ≤ j → i < c1 + (lst false kin bits 1024).length → j < c1 + (lst false kin bits 1024).length → (h i < h j ↔ i < j) := fun i j a1 a2 b1 b2 => by
        have e1 := hhi (i - c1)
        rw [show c1 + (i - c1) = i by omega, hsome i b1] at e1
        have e2 := hhi (j - c1)
        rw [show c1 + (j - c1) = j by omega, hsome j b2] at e2
        exact ⟨fun z => by have := lst_ord e1 e2 z; omega, fun z => lst_lt (show i - c1 < j - c1 by omega) e1 e2⟩
      have hmk : ∀ k, MkP (fun i => thr (h i) 10) c1 (c1 + (lst false kin bits 1024).length) (c1 + (lst false kin bits 1024).length) k ↔ ∃ c, LosP kin bits c k := by
        intro k
        constructor
        · rintro ⟨i, j, a1, a2, a3, a4, a5⟩
          obtain ⟨m1, m2, m3⟩ := hmemD i a1 a2
          obtain ⟨n1, n2, n3⟩ := hmemD j (by omega) a4
          exact ⟨h i, ⟨m2, m3⟩, h j, (ordD i j a1 (by omega) a2 a4).mpr a3, n1, ⟨n2, n3⟩, a5⟩
        · rintro ⟨c, h1, d, h2, h3, h4, h5⟩
          obtain ⟨i, i1, i2, rfl⟩ := hidxD c h1
          obtain ⟨j, j1, j2, rfl⟩ := hidxD d h4
          exact ⟨i, j, i1, i2, (ordD i j i1 j1 i2 j2).mp h2, j2, h5⟩
      obtain ⟨su', s1, s2⟩ := markSums_s (fi := fi2) (g := fun i => thr (h i) 10) (c1 := c1) (n := c1 + (lst false kin bits 1024).length) hL (fun i hi => (r2 i (h i) (hsome i hi)).2) hg (by omega) su
      rw [s1, Option.bind_some]
      have hmk2 : ∀ i j, tb su' (thr (h i) 10 + thr (h j) 10) = true ↔ ∃ c, LosP kin bits c (thr (h i) 10 + thr (h j) 10) := fun i j => by
        have g1 := hg i
        have g2 := hg j
        rw [s2 _ (by omega), hmk]
      unfold F_X10_findPair
      have fp := findPair_2 (bits := bits) (fi := fi2) (se := se2) (su := su') (g := fun i => thr (h i) 10) (c1 := c1) (by omega) (fun i hi => (r2 i (h i) (hsome i (by omega))).2) hg (nI (c1 + (lst false kin bits 1024).length)) (fill_row (-1) 4 tr) FU 0 (by unfold FU; omega) (by omega) (fun i' j' a => by omega)
      rw [nI_0] at fp
      rcases fp with ⟨e, hno⟩ | ⟨i2, j2, b1, b2, b3, b4, e⟩
      · rw [e, Option.bind_some]
        refine ⟨_, _, _, _, _, _, rfl, none_out (fun a b hab hb ta tbb c hl => ?_)⟩
        obtain ⟨i, i1, rfl⟩ := hidxC a (by omega) ta
        obtain ⟨j, j1, rfl⟩ := hidxC b hb tbb
        exact hno i j ((ordC i j i1 j1).mp hab) j1 ((hmk2 i j).mpr ⟨c, hl⟩)
      · obtain ⟨a1, a2, a3⟩ := hmemC i2 (by omega)
        obtain ⟨c1', c2', c3'⟩ := hmemC j2 b2
        obtain ⟨c0, hl0⟩ := (hmk2 i2 j2).mp b3
        obtain ⟨ic, ic1, ic2, ic3⟩ := hidxD c0 hl0.1
        have fo := findOthers_16 (bits := bits) (se := se2) (tr := fill_row (-1) 4 tr) (h := h) (a := h i2) (b := h j2) (c1 := c1) (n := c1 + (lst false kin bits 1024).length) hL a1 c1' (fun i x1 x2 => ⟨(r2 i (h i) (hsome i x2)).1, (hmemD i x1 x2).1⟩) ⟨ic, ic1, ic2, by
          have := (los_iff hk a2 c2' hl0.1).mp hl0
          rw [← ic3] at this
          exact this⟩ FU c1 (by unfold FU; omega) (by omega) (Nat.le_refl _) (fun i' x1 x2 => by omega)
        obtain ⟨i3, d1, d2, d3, d4, d5⟩ := fo
        have e2 : F_X10_findOthers (se2 i2) (se2 j2) bits (fill_row (-1) 4 tr) (nI c1) (nI (c1 + (lst false kin bits 1024).length)) se2 = some (trw (fill_row (-1) 4 tr) (nI (h i2)) (nI (h j2)) (nI (h i3)) (nI (oth (h i2) (h j2) (h i3)))) := by
          unfold F_X10_findOthers
          rw [(r2 i2 (h i2) (hsome i2 (by omega))).1, (r2 j2 (h j2) (hsome j2 (by omega))).1, nx_and, xor_nI]
          exact d5
        rw [e, e2, Option.bind_some]
        obtain ⟨m1, m2, m3⟩ := hmemD i3 d1 d2
        refine ⟨_, _, _, _, _, _, rfl, Or.inr ⟨h i2, h j2, h i3, (ordC i2 j2 (by omega) b2).mpr b1, c1', a3, c3', (los_iff hk a2 c2' ⟨m2, m3⟩).mpr d3, fun c' hc' hl => ?_, fun a' b' hab hb ta tbb hor c hl => ?_, rfl, rfl, rfl, rfl⟩⟩
        · obtain ⟨i', x1, x2, x3⟩ := hidxD c' hl.1
          have hl' := (los_iff hk a2 c2' hl.1).mp hl
          rw [← x3] at hl' hc'
          exact d4 i' x1 ((ordD i' i3 x1 d1 x2 d2).mp hc') hl'
        · obtain ⟨i, i1, rfl⟩ := hidxC a' (by omega) ta
          obtain ⟨j, j1, rfl⟩ := hidxC b' hb tbb
          refine b4 i j ((ordC i j i1 j1).mp hab) j1 ?_ ((hmk2 i j).mpr ⟨c, hl⟩)
          rcases hor with q | ⟨q1, q2⟩
          · exact Or.inl ((ordC i i2 i1 (by omega)).mp q)
          · right
            refine ⟨?_, (ordC j j2 j1 b2).mp q2⟩
            rcases Nat.lt_trichotomy i i2 with z | z | z
            · have := (ordC i i2 i1 (by omega)).mpr z; omega
            · exact z
            · have := (ordC i2 i (by omega) i1).mpr z; omega
end SK
