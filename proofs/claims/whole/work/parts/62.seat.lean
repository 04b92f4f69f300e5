/-! THE CLASS'S SIDE of the seating -/
theorem inside_m1 (n : Nat) : F_X11_inside (-1) (nI n) = some 0 := by
  rw [inside_s, if_neg (fun h => absurd h.1 (by decide))]
theorem keep_s {day mem L : Nat → Int32} {i mi : Nat} (hi : i < 200) (hm : mem i = nI mi) (hmi : mi < 10) (hL : L mi = -1 ∨ ∃ j, j < 200 ∧ L mi = nI j) :
    F_X3_keepLatest (nI i) day L mem = some (upd L mi (if L mi = -1 then nI i else if day i < day (L mi).toNatClampNeg then L mi else nI i)) := by
  have hcl : (nI i).toNatClampNeg = i := nI_clamp (by omega)
  have hcm : (nI mi).toNatClampNeg = mi := nI_clamp (by omega)
  unfold F_X3_keepLatest
  simp only [gin_n hi (show 200 < 2 ^ 31 by omega), hcl, hm, gin_n hmi (show 10 < 2 ^ 31 by omega), hcm]
  rw [show (10 : Int32) = nI 10 from rfl, show (200 : Int32) = nI 200 from rfl, inside_n (by omega) (by omega), if_pos hi, Option.bind_some, if_neg one_ne, inside_n (by omega) (by omega), if_pos hmi, Option.bind_some, if_neg one_ne]
  rcases hL with h | ⟨j, hj, ej⟩
  · rw [h, inside_m1, Option.bind_some, if_pos rfl, if_pos rfl]
  · rw [ej, inside_n (by omega) (by omega), if_pos hj, Option.bind_some, if_neg one_ne, gin_n hj (by omega), if_neg (neg1_ne (by omega))]
    by_cases c : day i < day (nI j).toNatClampNeg
    · rw [if_pos c, if_pos c]
      congr 1
      funext q
      unfold upd
      by_cases hq : q = mi
      · rw [if_pos hq, hq, ej]
      · rw [if_neg hq]
    · rw [if_neg c, if_neg c]
/-- the row 'latest' behind the first i shifts -/
def lrow (mem day tld : Nat → Int32) (d k : Int32) (r : Nat → Int32) (i : Nat) : Nat → Int32 := fun m => if m < 10 then bst mem day tld d k (nI m) i else r m
theorem lrow_step {mem day tld : Nat → Int32} {d k : Int32} {r : Nat → Int32} {i mi : Nat} (hm : mem i = nI mi) (hmi : mi < 10) (h1 : ¬ k < tld i) (h2 : ¬ d < day i) :
    upd (lrow mem day tld d k r i) mi (if lrow mem day tld d k r i mi = -1 then nI i else if day i < day (lrow mem day tld d k r i mi).toNatClampNeg then lrow mem day tld d k r i mi else nI i) = lrow mem day tld d k r (i + 1) := by
  funext q
  by_cases hq : q = mi
  · subst hq
    rw [upd_self]
    simp only [lrow, if_pos hmi]
    rw [bst, if_pos (show mem i = nI q ∧ ¬ k < tld i ∧ day i ≤ d from ⟨hm, h1, Int32.not_lt.mp h2⟩)]
  · rw [upd_ne _ _ hq]
    unfold lrow
    by_cases h10 : q < 10
    · rw [if_pos h10, if_pos h10, bst, if_neg]
      intro c
      rw [hm, nI_eq (by omega) (by omega)] at c
      exact hq c.1.symm
    · rw [if_neg h10, if_neg h10]
theorem lrow_skip {mem day tld : Nat → Int32} {d k : Int32} {r : Nat → Int32} {i : Nat} (h : k < tld i ∨ d < day i) : lrow mem day tld d k r (i + 1) = lrow mem day tld d k r i := by
  funext q
  unfold lrow
  by_cases h10 : q < 10
  · rw [if_pos h10, if_pos h10, bst, if_neg]
    intro c
    rcases h with h | h
    · exact c.2.1 h
    · exact absurd h (Int32.not_lt.mpr c.2.2)
  · rw [if_neg h10, if_neg h10]
theorem seat_11 {mem day tld blo wei : Nat → Int32} {d k : Int32} {nN : Nat} (hn : nN ≤ 200) (hmem : ∀ i, i < nN → ∃ mi, mi < 10 ∧ mem i = nI mi) (pa pi : Int32) (pm pw r : Nat → Int32) :
    ∀ (fuel i : Nat), nN - i < fuel → i ≤ nN → F_X3_seat_11 d k (nI nN) blo day mem tld wei fuel (nI i) pa pi pm pw (lrow mem day tld d k r i) =
      (F_X7_clear pa pi pm pw).bind (fun r4 => F_X3_seat_69 (nI nN) blo day mem tld wei FU (0 : Int32) r4.1 r4.2.1 r4.2.2.1 r4.2.2.2 (lrow mem day tld d k r nN)) := by
  intro fuel
  induction fuel with
  | zero => intro i h; omega
  | succ n ih =>
    intro i h hi
    rw [F_X3_seat_11]
    rcases Nat.lt_or_ge i nN with hlt | hge
    · have next := ih (i + 1) (by omega) (by omega)
      rw [if_neg (nI_ge hlt (by omega)), if_neg (show ¬ (200 : Int32) ≤ nI i from nI_ge (b := 200) (by omega) (by omega)), nI_1]
      simp only [gin_n (show i < 200 by omega) (show 200 < 2 ^ 31 by omega), nI_clamp (show i < 2 ^ 31 by omega)]
      obtain ⟨mi, hmi, em⟩ := hmem i hlt
      by_cases c1 : k < tld i
      · rw [if_pos c1, ← lrow_skip (Or.inl c1)]
        exact next
      · rw [if_neg c1]
        by_cases c2 : d < day i
        · rw [if_pos c2, ← lrow_skip (Or.inr c2)]
          exact next
        · rw [if_neg c2, keep_s (by omega) em hmi, lrow_step em hmi c1 c2]
          · exact next
          · unfold lrow
            rw [if_pos hmi]
            rcases bst_rng mem day tld d k (nI mi) i with q | ⟨j, q1, q2⟩
            · exact Or.inl q
            · exact Or.inr ⟨j, by omega, q2⟩
    · have e : i = nN := by omega
      subst e
      rw [if_pos (nI_le (Nat.le_refl _) (by omega))]
/-- the members of a bloc, among the first -/
def sOf (mem day tld blo : Nat → Int32) (d k : Int32) (N b : Nat) : Nat → Int32
  | 0 => 0
  | m + 1 => if sB mem day tld blo d k N m = nI b then sOf mem day tld blo d k N b m ||| ((1 : Int32) <<< (nI m &&& 31)) else sOf mem day tld blo d k N b m
theorem put_s {all inn : Int32} {mo we : Nat → Int32} {m b : Nat} (w : Int32) (hm : m < 10) (hb : b < 6) : F_X7_put (nI m) w (nI b) all inn mo we = some (all + w, inn ||| ((1 : Int32) <<< (nI m &&& 31)), upd mo b (mo b ||| ((1 : Int32) <<< (nI m &&& 31))), upd we m w) := by
  unfold F_X7_put
  rw [show (10 : Int32) = nI 10 from rfl, show (6 : Int32) = nI 6 from rfl, inside_n (by omega) (by omega), if_pos hm, Option.bind_some, if_neg one_ne, inside_n (by omega) (by omega), if_pos hb, Option.bind_some, if_neg one_ne]
  simp only [gin_n hm (show 10 < 2 ^ 31 by omega), gin_n hb (show 6 < 2 ^ 31 by omega), nI_clamp (show m < 2 ^ 31 by omega), nI_clamp (show b < 2 ^ 31 by omega)]
theorem put_out {all inn : Int32} {mo we : Nat → Int32} {m : Nat} (w : Int32) (hm : m < 10) : F_X7_put (nI m) w (-1) all inn mo we = some (all, inn, mo, we) := by
  unfold F_X7_put
  rw [show (10 : Int32) = nI 10 from rfl, show (6 : Int32) = nI 6 from rfl, inside_n (by omega) (by omega), if_pos hm, Option.bind_some, if_neg one_ne, inside_m1, Option.bind_some, if_pos rfl]
theorem seat_69 {mem day tld blo wei : Nat → Int32} {d k : Int32} {nN : Nat} (hn : nN ≤ 200) (hblo : ∀ i, i < nN → blo i = -1 ∨ ∃ b, b < 6 ∧ blo i = nI b) (pm pw r : Nat → Int32) :
    ∀ (fuel i : Nat), 10 - i < fuel → i ≤ 10 → F_X3_seat_69 (nI nN) blo day mem tld wei fuel (nI i) (sSum mem day tld blo wei d k nN i) (sAll mem day tld blo d k nN i) (fun b => if b < 6 then sOf mem day tld blo d k nN b i else pm b) (fun j => if j < i then sW mem day tld blo wei d k nN j else if j < 10 then 0 else pw j) (lrow mem day tld d k r nN) =
      some (sSum mem day tld blo wei d k nN 10, sAll mem day tld blo d k nN 10, (fun b => if b < 6 then sOf mem day tld blo d k nN b 10 else pm b), (fun j => if j < 10 then sW mem day tld blo wei d k nN j else pw j), lrow mem day tld d k r nN) := by
  intro fuel
  induction fuel with
  | zero => intro i h; omega
  | succ n ih =>
    intro i h hi
    rw [F_X3_seat_69]
    rcases Nat.lt_or_ge i 10 with hlt | hge
    · have next := ih (i + 1) (by omega) (by omega)
      rw [if_neg (show ¬ (10 : Int32) ≤ nI i from nI_ge (b := 10) hlt (by omega)), nI_1, gin_n hlt (by omega), nI_clamp (by omega)]
      have hrow : lrow mem day tld d k r nN i = bst mem day tld d k (nI i) nN := by unfold lrow; rw [if_pos hlt]
      rw [hrow, show (200 : Int32) = nI 200 from rfl]
      rcases bst_rng mem day tld d k (nI i) nN with q | ⟨j, hj, ej⟩
      · have eB : sB mem day tld blo d k nN i = -1 := by unfold sB; rw [if_pos q]
        have eW : sW mem day tld blo wei d k nN i = 0 := by unfold sW; rw [if_pos eB]
        rw [q, inside_m1, Option.bind_some, if_pos rfl]
        rw [sSum, sAll, if_pos eB, if_pos eB] at next
        rw [← next]
        congr 1
        · funext b
          by_cases hb : b < 6
          · rw [if_pos hb, if_pos hb, sOf, if_neg (by rw [eB]; exact fun e => neg1_ne (j := b) (by omega) e.symm)]
          · rw [if_neg hb, if_neg hb]
        · funext z
          by_cases hz : z = i
          · subst hz; rw [if_neg (by omega), if_pos hlt, if_pos (by omega), eW]
          · by_cases h2 : z < i
            · rw [if_pos h2, if_pos (by omega)]
            · rw [if_neg h2, if_neg (show ¬ z < i + 1 by omega)]
      · have hne : ¬ bst mem day tld d k (nI i) nN = -1 := by rw [ej]; exact neg1_ne (by omega)
        have eB : sB mem day tld blo d k nN i = blo j := by unfold sB; rw [if_neg hne, ej, nI_clamp (by omega)]
        rw [ej, inside_n (by omega) (by omega), if_pos (by omega), Option.bind_some, if_neg one_ne]
        simp only [gin_n (show j < 200 by omega) (show 200 < 2 ^ 31 by omega), nI_clamp (show j < 2 ^ 31 by omega)]
        rcases hblo j hj with hb1 | ⟨b, hb, eb⟩
        · rw [hb1] at eB
          have eW : sW mem day tld blo wei d k nN i = 0 := by unfold sW; rw [if_pos eB]
          rw [hb1, put_out _ hlt, Option.bind_some]
          dsimp only
          rw [sSum, sAll, if_pos eB, if_pos eB] at next
          rw [← next]
          congr 1
          · funext b
            by_cases hb : b < 6
            · rw [if_pos hb, if_pos hb, sOf, if_neg (by rw [eB]; exact fun e => neg1_ne (j := b) (by omega) e.symm)]
            · rw [if_neg hb, if_neg hb]
          · funext z
            by_cases hz : z = i
            · subst hz; rw [if_neg (by omega), if_pos hlt, if_pos (by omega), eW]
            · by_cases h2 : z < i
              · rw [if_pos h2, if_pos (by omega)]
              · rw [if_neg h2, if_neg (show ¬ z < i + 1 by omega)]
        · rw [eb] at eB
          have hBne : ¬ sB mem day tld blo d k nN i = -1 := by rw [eB]; exact neg1_ne (by omega)
          have eW : sW mem day tld blo wei d k nN i = wei j := by unfold sW; rw [if_neg hBne, ej, nI_clamp (by omega)]
          rw [eb, put_s _ hlt hb, Option.bind_some]
          dsimp only
          rw [sSum, sAll, if_neg hBne, if_neg hBne, eW] at next
          rw [← next]
          congr 1
          · funext c
            unfold upd
            by_cases hc : c = b
            · subst hc; dsimp only; rw [if_pos rfl, if_pos hb, if_pos hb, sOf, if_pos eB]
            · rw [if_neg hc]
              dsimp only
              by_cases h6 : c < 6
              · rw [if_pos h6, if_pos h6, sOf, if_neg (by rw [eB, nI_eq (by omega) (by omega)]; exact fun e => hc e.symm)]
              · rw [if_neg h6, if_neg h6]
          · funext z
            unfold upd
            by_cases hz : z = i
            · subst hz; rw [if_pos rfl, if_pos (by omega), eW]
            · rw [if_neg hz]
              dsimp only
              by_cases h2 : z < i
              · rw [if_pos h2, if_pos (by omega)]
              · rw [if_neg h2, if_neg (show ¬ z < i + 1 by omega)]
    · have e : i = 10 := by omega
      subst e
      rw [if_pos (show (10 : Int32) ≤ nI 10 from nI_le (a := 10) (Nat.le_refl _) (by omega))]
      congr 1
      congr 1
      congr 1
      congr 1
      congr 1
      funext z
      by_cases hz : z < 10
      · rw [if_pos hz, if_pos hz]
      · rw [if_neg hz, if_neg hz, if_neg hz]
theorem clear_s (pa pi : Int32) (pm pw : Nat → Int32) : F_X7_clear pa pi pm pw = some (0, 0, fill_row 0 6 pm, fill_row 0 10 pw) := by
  unfold F_X7_clear
  rw [fill_ok 0 pw (by omega), Option.bind_some, fill_ok 0 pm (by omega), Option.bind_some]
/-- Log.seat: the same seating, in the class's rows -/
theorem seat_s {mem day tld blo wei : Nat → Int32} (d k : Int32) {nN : Nat} (hn : nN ≤ 200) (hmem : ∀ i, i < nN → ∃ mi, mi < 10 ∧ mem i = nI mi) (hblo : ∀ i, i < nN → blo i = -1 ∨ ∃ b, b < 6 ∧ blo i = nI b) (pa pi : Int32) (pm pw la : Nat → Int32) :
    F_X3_seat d k pa pi pm pw (nI nN) blo day la mem tld wei =
      some (sSum mem day tld blo wei d k nN 10, sAll mem day tld blo d k nN 10, (fun b => if b < 6 then sOf mem day tld blo d k nN b 10 else pm b), (fun j => if j < 10 then sW mem day tld blo wei d k nN j else pw j), lrow mem day tld d k la nN) := by
  unfold F_X3_seat
  rw [fill_ok (-1) la (by omega), Option.bind_some]
  have e0 : fill_row (-1) 10 la = lrow mem day tld d k la 0 := by
    funext q; unfold fill_row lrow; rw [bst]
  have h11 := seat_11 (mem := mem) (day := day) (tld := tld) (blo := blo) (wei := wei) (d := d) (k := k) hn hmem pa pi pm pw la FU 0 (by unfold FU; omega) (by omega)
  rw [nI_0] at h11
  rw [e0, h11, clear_s, Option.bind_some]
  have h69 := seat_69 (mem := mem) (day := day) (tld := tld) (blo := blo) (wei := wei) (d := d) (k := k) hn hblo pm pw la FU 0 (by unfold FU; omega) (by omega)
  rw [nI_0] at h69
  rw [← h69]
  congr 1
