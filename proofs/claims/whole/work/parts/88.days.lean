/-! days -/
section DY
variable {mem day tld blo wei : Nat → Int32} {k : Int32} {N M : Nat}
theorem bst_same {d d' : Int32} (h : ∀ i, i < N → (day i ≤ d ↔ day i ≤ d')) (m : Int32) : ∀ n, n ≤ N → bst mem day tld d k m n = bst mem day tld d' k m n := by
  intro n
  induction n with
  | zero => intro _; rfl
  | succ n ih =>
    intro hn
    rw [bst, bst, ih (by omega)]
    simp only [h n (by omega)]
theorem sB_same {d d' : Int32} (h : ∀ i, i < N → (day i ≤ d ↔ day i ≤ d')) (m : Nat) : sB mem day tld blo d k N m = sB mem day tld blo d' k N m := by
  unfold sB
  rw [bst_same h (nI m) N (Nat.le_refl _)]
theorem sW_same {d d' : Int32} (h : ∀ i, i < N → (day i ≤ d ↔ day i ≤ d')) (m : Nat) : sW mem day tld blo wei d k N m = sW mem day tld blo wei d' k N m := by
  unfold sW
  rw [bst_same h (nI m) N (Nat.le_refl _), sB_same h m]
theorem sAll_same {d d' : Int32} (h : ∀ i, i < N → (day i ≤ d ↔ day i ≤ d')) : ∀ m, sAll mem day tld blo d k N m = sAll mem day tld blo d' k N m := by
  intro m
  induction m with
  | zero => rfl
  | succ m ih => rw [sAll, sAll, ih, sB_same h m]
theorem sSum_same {d d' : Int32} (h : ∀ i, i < N → (day i ≤ d ↔ day i ≤ d')) : ∀ m, sSum mem day tld blo wei d k N m = sSum mem day tld blo wei d' k N m := by
  intro m
  induction m with
  | zero => rfl
  | succ m ih => rw [sSum, sSum, ih, sB_same h m, sW_same h m]
theorem sOf_same {d d' : Int32} (h : ∀ i, i < N → (day i ≤ d ↔ day i ≤ d')) (b : Nat) : ∀ m, sOf mem day tld blo d k N b m = sOf mem day tld blo d' k N b m := by
  intro m
  induction m with
  | zero => rfl
  | succ m ih => rw [sOf, sOf, ih, sB_same h m]
end DY
theorem wSum_congr {w w' : Nat → Int32} {x : Int32} : ∀ n, (∀ j, j < n → w j = w' j) → wSum w x n = wSum w' x n := by
  intro n
  induction n with
  | zero => intro _; rfl
  | succ n ih => intro h; rw [wSum, wSum, ih (fun j hj => h j (by omega)), h n (by omega)]
theorem lfS_congr {sin sal set : Int32} {mo mo' sw sw' : Nat → Int32} (h1 : ∀ b, b < 6 → mo b = mo' b) (h2 : ∀ j, j < 10 → sw j = sw' j) {s v : Nat} (ho : opOk s v) : lfS sin sal mo sw set s v = lfS sin sal mo' sw' set s v := by
  unfold lfS
  by_cases c12 : s = 12
  · rw [h1 v (ho.2.2.2 (Or.inl c12)), wSum_congr 10 h2]
    by_cases c13 : s = 13
    · omega
    · simp only [if_neg c13]
  · by_cases c13 : s = 13
    · rw [h1 v (ho.2.2.2 (Or.inr c13)), wSum_congr 10 h2, wSum_congr 10 h2]
    · simp only [if_neg c12, if_neg c13]
      rw [wSum_congr 10 h2]
section CD
variable (mem day tld blo wei : Nat → Int32) (k : Int32) (N : Nat) (L : List (Nat × Nat)) (set : Int32)
/-- whether the set's members that are in then carry, on day d -/
def cdy (d : Nat) : Int32 := says (lfS (sAll mem day tld blo (nI d) k N 10) (sSum mem day tld blo wei (nI d) k N 10) (fun b => sOf mem day tld blo (nI d) k N b 10) (fun j => sW mem day tld blo wei (nI d) k N j) (set &&& sAll mem day tld blo (nI d) k N 10)) L
theorem cdy_same {d d' : Nat} (h : ∀ i, i < N → (day i ≤ nI d ↔ day i ≤ nI d')) : cdy mem day tld blo wei k N L set d = cdy mem day tld blo wei k N L set d' := by
  unfold cdy
  have e1 : (fun b => sOf mem day tld blo (nI d) k N b 10) = (fun b => sOf mem day tld blo (nI d') k N b 10) := funext (fun b => sOf_same h b 10)
  have e2 : (fun j => sW mem day tld blo wei (nI d) k N j) = (fun j => sW mem day tld blo wei (nI d') k N j) := funext (fun j => sW_same h j)
  rw [sAll_same h 10, sSum_same h 10, e1, e2]
/-- on how many of t days from a on -/
def cnd (a : Nat) : Nat → Nat
  | 0 => 0
  | t + 1 => if cdy mem day tld blo wei k N L set (a + t) = 0 then cnd a t else cnd a t + 1
theorem cnd_le (a : Nat) : ∀ t, cnd mem day tld blo wei k N L set a t ≤ t := by
  intro t
  induction t with
  | zero => exact Nat.le_refl _
  | succ t ih =>
    rw [cnd]
    by_cases c : cdy mem day tld blo wei k N L set (a + t) = 0
    · rw [if_pos c]; omega
    · rw [if_neg c]; omega
theorem cnd_seg (a t : Nat) : ∀ s, (∀ e, e < s → cdy mem day tld blo wei k N L set (a + t + e) = cdy mem day tld blo wei k N L set (a + t)) → cnd mem day tld blo wei k N L set a (t + s) = if cdy mem day tld blo wei k N L set (a + t) = 0 then cnd mem day tld blo wei k N L set a t else cnd mem day tld blo wei k N L set a t + s := by
  intro s
  induction s with
  | zero => intro _; by_cases c : cdy mem day tld blo wei k N L set (a + t) = 0
            · rw [if_pos c]; rfl
            · rw [if_neg c]; rfl
  | succ s ih =>
    intro h
    rw [← Nat.add_assoc, cnd, ih (fun e he => h e (by omega)), ← Nat.add_assoc, h s (by omega)]
    by_cases c : cdy mem day tld blo wei k N L set (a + t) = 0
    · rw [if_pos c, if_pos c]
      rw [if_pos c]
    · rw [if_neg c, if_neg c, if_neg c]
      omega
end CD
section DM
variable {mem day tld blo wei : Nat → Int32} {N M : Nat}
theorem cano (d k : Int32) : Seated mem day tld blo wei d k N (sAll mem day tld blo d k N 10) (sSum mem day tld blo wei d k N 10) (fun b => sOf mem day tld blo d k N b 10) (fun j => sW mem day tld blo wei d k N j) := ⟨rfl, rfl, fun _ _ => rfl, fun _ _ => rfl⟩
theorem win_and (x y : Int32) : ((x &&& y) &&& (y ^^^ (-1))) = 0 := by
  rw [win_iff]
  intro i hi hb
  rw [b_and, Bool.and_eq_true] at hb
  exact hb.2
/-- the reference: day by day -/
theorem mdays_65 (hM : M ≤ 10) (hn : N ≤ 200) (hmem : ∀ i, i < N → ∃ mi, mi < M ∧ mem i = nI mi) {L : List (Nat × Nat)} {codes : Int32} {code cm op arg : Nat → Int32} {r : Nat} (hr : r < 4) (R : RuleIs L codes code r cm op arg) {set kk told : Int32} {a b : Nat} (hab : a ≤ b + 1) (hb : b < 1000) :
    ∀ (fuel t : Nat) (al ma we : Int32) (rb st rw0 : Nat → Int32), b + 1 - (a + t) < fuel → a + t ≤ b + 1 → ∃ o, F_X12_days_65 (nI r) set (nI b) kk (nI M) (nI N) arg cm op blo day mem tld wei fuel (nI (cnd mem day tld blo wei kk N L set a t)) (nI (a + t)) al ma told we rb st rw0 = some (nI (cnd mem day tld blo wei kk N L set a (b + 1 - a)), o) := by
  intro fuel
  induction fuel with
  | zero => intro t al ma we rb st rw0 h; omega
  | succ n ih =>
    intro t al ma we rb st rw0 h ht
    rw [F_X12_days_65]
    rcases Nat.lt_or_ge b (a + t) with hlt | hge
    · rw [if_pos (nI_lt hlt (by omega)), show b + 1 - a = t by omega]
      exact ⟨_, rfl⟩
    · have S := cano (mem := mem) (day := day) (tld := tld) (blo := blo) (wei := wei) (N := N) (nI (a + t)) kk
      obtain ⟨st', h2⟩ := carriesBy_seat hM hn hmem S hr R (set := set &&& sAll mem day tld blo (nI (a + t)) kk N 10) (win_and _ _) st rb rw0
      rw [if_neg (nI_nlt hge (by omega)), finds_s (nI (a + t)) kk hn hM, Option.bind_some]
      dsimp only
      rw [← sAll10 (day := day) (tld := tld) (blo := blo) (d := nI (a + t)) (k := kk) hM hmem, h2, Option.bind_some]
      dsimp only
      rw [nI_1, nI_1]
      have next := ih (t + 1) (sAll mem day tld blo (nI (a + t)) kk N 10) (sMany mem day tld blo (nI (a + t)) kk N M) (sSum mem day tld blo wei (nI (a + t)) kk N M) (fun j => if j < M then sB mem day tld blo (nI (a + t)) kk N j else rb j) st' (fun j => if j < M then sW mem day tld blo wei (nI (a + t)) kk N j else rw0 j) (by omega) (by omega)
      rw [cnd, ← Nat.add_assoc] at next
      by_cases c : cdy mem day tld blo wei kk N L set (a + t) = 0
      · rw [if_pos c] at next
        rw [if_pos (show says _ L = 0 from c)]
        exact next
      · rw [if_neg c] at next
        rw [if_neg (show ¬ says _ L = 0 from c)]
        exact next
/-- the next day from which a shift counts -/
theorem dayB_6 (hn : N ≤ 200) (hday : ∀ i, i < N → ∃ e, e < 1000 ∧ day i = nI e) {on : Nat} (ho : on < 1000) :
    ∀ (fuel i e : Nat), N - i < fuel → i ≤ N → on < e → e ≤ 1000 → (∀ j z, j < i → day j = nI z → z < 1000 → ¬ (on < z ∧ z < e)) → (e = 1000 ∨ ∃ j, j < N ∧ day j = nI e) →
      ∃ e', F_X3_dayBehind_6 (nI on) (nI N) day fuel (nI e) (nI i) = some (nI e') ∧ on < e' ∧ e' ≤ 1000 ∧ (∀ j z, j < N → day j = nI z → z < 1000 → ¬ (on < z ∧ z < e')) ∧ (e' = 1000 ∨ ∃ j, j < N ∧ day j = nI e') := by
  intro fuel
  induction fuel with
  | zero => intro i e h; omega
  | succ n ih =>
    intro i e h hi h1 h2 h3 h4
    rw [F_X3_dayBehind_6]
    rcases Nat.lt_or_ge i N with hlt | hge
    · obtain ⟨z, hz, ez⟩ := hday i hlt
      rw [if_neg (nI_ge hlt (by omega)), if_neg (show ¬ (200 : Int32) ≤ nI i from nI_ge (b := 200) (by omega) (by omega)), gin_n (show i < 200 by omega) (by omega), gin_n (show i < 200 by omega) (by omega), gin_n (show i < 200 by omega) (by omega), nI_clamp (by omega), ez, nI_1]
      have same : ∀ w, w < 1000 → day i = nI w → w = z := fun w hw e => by
        rw [ez] at e
        exact ((nI_eq (by omega) (by omega)).mp e).symm
      by_cases c1 : z ≤ on
      · rw [if_pos (nI_le c1 (by omega))]
        exact ih (i + 1) e (by omega) (by omega) h1 h2 (fun j w hj hw hw2 => by
          by_cases q : j = i
          · subst q; have := same w hw2 hw; omega
          · exact h3 j w (by omega) hw hw2) h4
      · rw [if_neg (nI_ge (by omega) (by omega))]
        by_cases c2 : e ≤ z
        · rw [if_pos (nI_le c2 (by omega))]
          exact ih (i + 1) e (by omega) (by omega) h1 h2 (fun j w hj hw hw2 => by
            by_cases q : j = i
            · subst q; have := same w hw2 hw; omega
            · exact h3 j w (by omega) hw hw2) h4
        · rw [if_neg (nI_ge (by omega) (by omega))]
          exact ih (i + 1) z (by omega) (by omega) (by omega) (by omega) (fun j w hj hw hw2 => by
            by_cases q : j = i
            · subst q; have := same w hw2 hw; omega
            · have := h3 j w (by omega) hw hw2; omega) (Or.inr ⟨i, hlt, ez⟩)
    · have e0 : i = N := by omega
      subst e0
      rw [if_pos (nI_le (Nat.le_refl _) (by omega))]
      exact ⟨e, rfl, h1, h2, h3, h4⟩
/-- how many shifts count from a day behind d -/
def aft_ (day : Nat → Int32) (d : Nat) : Nat → Nat
  | 0 => 0
  | n + 1 => if nI d < day n then aft_ day d n + 1 else aft_ day d n
theorem aft_le (d : Nat) : ∀ n, aft_ day d n ≤ n := by
  intro n
  induction n with
  | zero => exact Nat.le_refl _
  | succ n ih =>
    rw [aft_]
    by_cases c : nI d < day n
    · rw [if_pos c]; omega
    · rw [if_neg c]; omega
theorem aft_mono {d e : Nat} (h : d ≤ e) (he : e < 2 ^ 31) : ∀ n, aft_ day e n ≤ aft_ day d n := by
  intro n
  induction n with
  | zero => exact Nat.le_refl _
  | succ n ih =>
    rw [aft_, aft_]
    by_cases c : nI e < day n
    · have c2 : nI d < day n := by
        have hle := nI_le h he
        rw [Int32.lt_iff_toInt_lt] at c ⊢
        rw [Int32.le_iff_toInt_le] at hle
        omega
      rw [if_pos c, if_pos c2]; omega
    · rw [if_neg c]
      by_cases c2 : nI d < day n
      · rw [if_pos c2]; omega
      · rw [if_neg c2]; exact ih
theorem aft_less {d e j : Nat} (h : d < e) (he : e < 2 ^ 31) (hj : day j = nI e) : ∀ n, j < n → aft_ day e n + 1 ≤ aft_ day d n := by
  intro n
  induction n with
  | zero => intro h; omega
  | succ n ih =>
    intro hn
    have hm := aft_mono (day := day) (Nat.le_of_lt h) he n
    rw [aft_, aft_]
    by_cases q : j = n
    · subst q
      rw [hj, if_neg (nI_nlt (Nat.le_refl _) he), if_pos (nI_lt h he)]; omega
    · have := ih (by omega)
      by_cases c : nI e < day n
      · have c2 : nI d < day n := by
          have hle := nI_lt h he
          rw [Int32.lt_iff_toInt_lt] at c hle ⊢
          omega
        rw [if_pos c, if_pos c2]; omega
      · rw [if_neg c]
        by_cases c2 : nI d < day n
        · rw [if_pos c2]; omega
        · rw [if_neg c2]; exact this
/-- the class: from day to day on which a shift counts -/
theorem cdays_63 (hM : M ≤ 10) (hn : N ≤ 200) (hmem : ∀ i, i < N → ∃ mi, mi < 10 ∧ mem i = nI mi) (hblo : ∀ i, i < N → blo i = -1 ∨ ∃ b, b < 6 ∧ blo i = nI b) (hday : ∀ i, i < N → ∃ e, e < 1000 ∧ day i = nI e) {L : List (Nat × Nat)} {codes : Int32} {code cm op arg : Nat → Int32} {r : Nat} (hr : r < 4) (R : RuleIs L codes code r cm op arg) {set kk M' : Int32} {a b : Nat} (hb : b < 1000) :
    ∀ (fuel t n8 : Nat) (la mo sw st : Nat → Int32) (oal oin : Int32), b + 1 - (a + t) < fuel → a + t ≤ b + 1 → n8 + aft_ day (a + t) N ≤ 200 ∨ a + t = b + 1 → n8 ≤ 201 → ∃ o, F_X11_days_63 (nI r) set (nI b) kk M' (nI N) blo day mem tld wei codes code fuel (nI (cnd mem day tld blo wei kk N L set a t)) (nI (a + t)) (nI n8) la oal oin mo sw st = some (nI (cnd mem day tld blo wei kk N L set a (b + 1 - a)), o) := by
  intro fuel
  induction fuel with
  | zero => intro t n8 la mo sw st oal oin h; omega
  | succ n ih =>
    intro t n8 la mo sw st oal oin h ht hK h8
    rw [F_X11_days_63]
    rcases Nat.lt_or_ge b (a + t) with hlt | hge
    · rw [show b + 1 - a = t by omega, if_pos (nI_lt hlt (by omega))]
      by_cases c : (200 : Int32) < nI n8
      · rw [if_pos c]; exact ⟨_, rfl⟩
      · rw [if_neg c]; exact ⟨_, rfl⟩
    · have hK' : n8 + aft_ day (a + t) N ≤ 200 := by omega
      obtain ⟨e, f1, f2, f3, f4, f5⟩ := dayB_6 hn hday (on := a + t) (by omega) FU 0 1000 (by unfold FU; omega) (by omega) (by omega) (Nat.le_refl _) (fun j z hj => by omega) (Or.inl rfl)
      rw [nI_0] at f1
      have f1' : F_X3_dayBehind (nI (a + t)) (nI N) day = some (nI e) := f1
      rw [if_neg (show ¬ (200 : Int32) < nI n8 from nI_nlt (a := 200) (by omega) (by omega)), if_neg (nI_nlt hge (by omega)), f1', Option.bind_some, seat_s (nI (a + t)) kk hn hmem hblo, Option.bind_some]
      dsimp only
      have hsin : ∀ i, 10 ≤ i → i < 32 → bt (sAll mem day tld blo (nI (a + t)) kk N 10) i = false := sAll_hi (Nat.le_refl _)
      obtain ⟨row', g1, g2⟩ := holds_s (set := set &&& sAll mem day tld blo (nI (a + t)) kk N 10) (al := sSum mem day tld blo wei (nI (a + t)) kk N 10) (inn := sAll mem day tld blo (nI (a + t)) kk N 10) (mo := fun b => if b < 6 then sOf mem day tld blo (nI (a + t)) kk N b 10 else mo b) (sw := fun j => if j < 10 then sW mem day tld blo wei (nI (a + t)) kk N j else sw j) (row := st) (lf := lfS (sAll mem day tld blo (nI (a + t)) kk N 10) (sSum mem day tld blo wei (nI (a + t)) kk N 10) (fun b => sOf mem day tld blo (nI (a + t)) kk N b 10) (fun j => sW mem day tld blo wei (nI (a + t)) kk N j) (set &&& sAll mem day tld blo (nI (a + t)) kk N 10)) R.1 (fun s v x1 x2 o => by
        rw [ask_s (fun i y1 y2 => by rw [b_and, hsin i y1 y2, Bool.and_false]) hsin x1 x2 o]
        congr 1
        exact lfS_congr (fun b hb => if_pos hb) (fun j hj => if_pos hj) o) (fun v _ => lfS_11 v) R.2.2.1
      rw [gin_n hr (by omega), R.2.1, g1, Option.bind_some]
      dsimp only
      -- the next day
      let s : Nat := (if b + 1 < e then b + 1 else e) - (a + t)
      have hs0 : (if nI b + 1 < nI e then nI b + 1 else nI e) = nI (a + (t + s)) ∧ 0 < s ∧ a + t + s ≤ e ∧ a + t + s ≤ b + 1 ∧ (a + t + s = e ∨ a + t + s = b + 1) := by
        have es : a + t + s = if b + 1 < e then b + 1 else e := by
          clear f5
          show a + t + ((if b + 1 < e then b + 1 else e) - (a + t)) = _
          by_cases c : b + 1 < e
          · rw [if_pos c]; omega
          · rw [if_neg c]; omega
        have es2 : a + (t + s) = a + t + s := by omega
        by_cases c : b + 1 < e
        · rw [if_pos c] at es
          refine ⟨?_, by omega, by omega, by omega, Or.inr es⟩
          rw [nI_1, if_pos (nI_lt c (by omega)), es2, es]
        · rw [if_neg c] at es
          refine ⟨?_, by omega, by omega, by omega, Or.inl es⟩
          rw [nI_1, if_neg (nI_nlt (by omega) (by omega)), es2, es]
      obtain ⟨s1, s2, s3, s4, s5⟩ := hs0
      have hseg : ∀ e1, e1 < s → cdy mem day tld blo wei kk N L set (a + t + e1) = cdy mem day tld blo wei kk N L set (a + t) := by
        intro e1 he1
        refine cdy_same _ _ _ _ _ _ _ _ _ (fun i hi => ?_)
        obtain ⟨z, hz, ez⟩ := hday i hi
        rw [ez, nI_leI (by omega) (by omega), nI_leI (by omega) (by omega)]
        have := f4 i z hi ez hz
        omega
      have hc := cnd_seg mem day tld blo wei kk N L set a t s hseg
      have hle := cnd_le mem day tld blo wei kk N L set a t
      have hK2 : n8 + 1 + aft_ day (a + (t + s)) N ≤ 200 ∨ a + (t + s) = b + 1 := by
        rcases s5 with q | q
        · rcases f5 with z | ⟨j, j1, j2⟩
          · right; omega
          · left
            have := aft_less (day := day) (d := a + t) (e := e) (j := j) (by omega) (by omega) j2 N j1
            rw [show a + (t + s) = e by omega]
            omega
        · right; omega
      clear f5
      have next := ih (t + s) (n8 + 1) (lrow mem day tld (nI (a + t)) kk la N) (fun b => if b < 6 then sOf mem day tld blo (nI (a + t)) kk N b 10 else mo b) (fun j => if j < 10 then sW mem day tld blo wei (nI (a + t)) kk N j else sw j) row' (sSum mem day tld blo wei (nI (a + t)) kk N 10) (sAll mem day tld blo (nI (a + t)) kk N 10) (by omega) (by omega) hK2 (by omega)
      rw [hc, R.2.1] at next
      rw [s1, nI_1 n8]
      by_cases c : cdy mem day tld blo wei kk N L set (a + t) = 0
      · rw [if_pos c] at next
        rw [if_pos (show says _ L = 0 from c)]
        exact next
      · rw [if_neg c] at next
        rw [if_neg (show ¬ says _ L = 0 from c), pk_sub (by omega), show a + (t + s) - (a + t) = s by omega, nI_add]
        exact next
end DM
