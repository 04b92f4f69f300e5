/-! view AND shift -/
section VS
variable {mem day tld blo wei : Nat → Int32} {d k : Int32} {N M : Nat}
theorem seatAnew_s (d k : Int32) (hn : N ≤ 200) (hmem : ∀ i, i < N → ∃ mi, mi < 10 ∧ mem i = nI mi) (hblo : ∀ i, i < N → blo i = -1 ∨ ∃ b, b < 6 ∧ blo i = nI b) (f0 f1 f2 f3 sal sin : Int32) (la mo sw : Nat → Int32) :
    ∃ la' sal' sin' mo' sw', F_X11_seatAnew d k (nI N) blo day la mem tld wei f0 f1 f2 f3 sal sin mo sw = some (la', 0, 0, 0, 0, sal', sin', mo', sw') ∧ Seated mem day tld blo wei d k N sin' sal' mo' sw' := by
  unfold F_X11_seatAnew
  rw [seat_s d k hn hmem hblo]
  refine ⟨_, _, _, _, _, rfl, rfl, rfl, fun b hb => ?_, fun j hj => ?_⟩
  · show (if b < 6 then _ else _) = _
    rw [if_pos hb]
  · show (if j < 10 then _ else _) = _
    rw [if_pos hj]
theorem view_both (hn : N ≤ 200) (hmem : ∀ i, i < N → ∃ mi, mi < 10 ∧ mem i = nI mi) (hblo : ∀ i, i < N → blo i = -1 ∨ ∃ b, b < 6 ∧ blo i = nI b) (x y vd vk told f0 f1 f2 f3 sal sin : Int32) (la mo sw : Nat → Int32) :
    (F_X11_view x y vd vk (nI N) blo day la mem tld wei f0 f1 f2 f3 sal sin mo sw = some (0, vd, vk, la, f0, f1, f2, f3, sal, sin, mo, sw) ∧ F_X12_view x y told vd vk = some (0, 0, vd, vk)) ∨
    (∃ a b la' sal' sin' mo' sw', a < 1000 ∧ b < 1000 ∧ x = nI a ∧ y = nI b ∧ F_X11_view x y vd vk (nI N) blo day la mem tld wei f0 f1 f2 f3 sal sin mo sw = some (1, x, y, la', 0, 0, 0, 0, sal', sin', mo', sw') ∧ F_X12_view x y told vd vk = some (1, 0, x, y) ∧ Seated mem day tld blo wei x y N sin' sal' mo' sw') := by
  unfold F_X11_view F_X12_view
  rw [inside_day, inside_day, isDay_s, isDay_s]
  simp only [Option.bind_some]
  by_cases hx : 0 ≤ x ∧ x ≤ 999
  · by_cases hy : 0 ≤ y ∧ y ≤ 999
    · right
      obtain ⟨a, ha, ea⟩ := nI_of2 (x := x) (M := 999) (n := 999) (by decide) (Int32.not_lt.mpr hx.1) hx.2
      obtain ⟨b, hb, eb⟩ := nI_of2 (x := y) (M := 999) (n := 999) (by decide) (Int32.not_lt.mpr hy.1) hy.2
      obtain ⟨la', sal', sin', mo', sw', h1, h2⟩ := seatAnew_s (day := day) (tld := tld) (wei := wei) x y hn hmem hblo f0 f1 f2 f3 sal sin la mo sw
      refine ⟨a, b, la', sal', sin', mo', sw', by omega, by omega, ea, eb, ?_, ?_, h2⟩
      · simp only [if_pos hx, if_pos hy, if_neg one_ne, h1, Option.bind_some]
      · simp only [if_pos hx, if_pos hy, if_neg one_ne]
    · left
      constructor
      · simp only [if_pos hx, if_neg hy, if_neg one_ne, if_true]
      · simp only [if_pos hx, if_neg hy, if_neg one_ne, if_true]
  · left
    constructor
    · simp only [if_neg hx, if_true]
    · simp only [if_neg hx, if_true]
theorem lastTold_s (hN : N ≤ 200) : F_X3_lastTold (nI N) tld = some (if N = 0 then 0 else tld (N - 1)) := by
  unfold F_X3_lastTold
  by_cases h : N = 0
  · subst h
    rw [show nI 0 - 1 = (-1 : Int32) by decide, show (200 : Int32) = nI 200 from rfl, inside_m1]
    rfl
  · obtain ⟨n, rfl⟩ : ∃ n, N = n + 1 := ⟨N - 1, by omega⟩
    rw [nI_pred, show (200 : Int32) = nI 200 from rfl, inside_n (by omega) (by omega), if_pos (by omega)]
    simp only [Option.bind_some, if_neg one_ne, gin_n (show n < 200 by omega) (show 200 < 2 ^ 31 by omega), nI_clamp (show n < 2 ^ 31 by omega)]
    rw [if_neg (by omega), Nat.add_sub_cancel]
theorem add_s (hN : N < 200) (x1 x2 x3 x4 x5 : Int32) : F_X3_add x1 x2 x3 x4 x5 (nI N) blo day mem tld wei = some (nI (N + 1), upd blo N x4, upd day N x2, upd mem N x1, upd tld N x5, upd wei N x3) := by
  unfold F_X3_add
  rw [show (200 : Int32) = nI 200 from rfl, inside_n (by omega) (by omega), if_pos hN]
  simp only [Option.bind_some, if_neg one_ne, gin_n hN (show 200 < 2 ^ 31 by omega), nI_clamp (show N < 2 ^ 31 by omega), nI_1]
theorem shift_87 (hN : N < 200) (x1 x2 x3 x4 x5 M' told : Int32) : F_X12_shift_87 x1 x2 x3 x4 x5 M' (nI N) told blo day mem tld wei = some (1, nI (N + 1), told, upd blo N x4, upd day N x2, upd mem N x1, upd tld N x5, upd wei N x3) := by
  unfold F_X12_shift_87
  simp only [gin_n hN (show 200 < 2 ^ 31 by omega), nI_clamp (show N < 2 ^ 31 by omega), nI_1]
/-- what a shift that is taken has -/
def ShiftOk (M N : Nat) (tld : Nat → Int32) (x1 x2 x3 x4 x5 : Int32) : Prop :=
  (0 ≤ x1 ∧ x1 < nI M) ∧ (0 ≤ x2 ∧ x2 ≤ 999) ∧ (0 ≤ x3 ∧ x3 ≤ 99) ∧ (-1 ≤ x4 ∧ x4 ≤ 5) ∧ (0 ≤ x5 ∧ x5 ≤ 999) ∧ N < 200 ∧ (N = 0 ∨ tld (N - 1) ≤ x5)
theorem bloc_in (x : Int32) : (x = -1 ∨ (0 ≤ x ∧ x ≤ 5)) ↔ (-1 ≤ x ∧ x ≤ 5) := by
  have e1 : (-1 : Int32).toInt = -1 := by decide
  have e5 : (5 : Int32).toInt = 5 := by decide
  have e0 : (0 : Int32).toInt = 0 := by decide
  rw [Int32.le_iff_toInt_le, Int32.le_iff_toInt_le, Int32.le_iff_toInt_le, ← Int32.toInt_inj, e1, e5, e0]
  omega
theorem shift_62 (hM : M ≤ 10) (hn : N ≤ 200) (x1 x2 x3 x4 x5 vd vk f0 f1 f2 f3 sal sin : Int32) (la mo sw : Nat → Int32) (M' : Int32) : F_X11_shift_62 x1 x2 x3 x4 x5 M' vd vk 0 (nI N) blo day la mem tld wei f0 f1 f2 f3 sal sin mo sw = some (0, nI N, blo, day, la, mem, tld, wei, f0, f1, f2, f3, sal, sin, mo, sw) := by
  unfold F_X11_shift_62
  rw [if_pos rfl]
theorem shift_both (hM : M ≤ 10) (hn : N ≤ 200) (hmem : ∀ i, i < N → ∃ mi, mi < M ∧ mem i = nI mi) (hblo : ∀ i, i < N → blo i = -1 ∨ ∃ b, b < 6 ∧ blo i = nI b) (x1 x2 x3 x4 x5 vd vk told f0 f1 f2 f3 sal sin : Int32) (la mo sw : Nat → Int32) :
    (¬ ShiftOk M N tld x1 x2 x3 x4 x5 ∧ F_X11_shift x1 x2 x3 x4 x5 (nI M) vd vk (nI N) blo day la mem tld wei f0 f1 f2 f3 sal sin mo sw = some (0, nI N, blo, day, la, mem, tld, wei, f0, f1, f2, f3, sal, sin, mo, sw) ∧ F_X12_shift x1 x2 x3 x4 x5 (nI M) (nI N) told blo day mem tld wei = some (0, nI N, 0, blo, day, mem, tld, wei)) ∨
    (ShiftOk M N tld x1 x2 x3 x4 x5 ∧ ∃ la' sal' sin' mo' sw', F_X11_shift x1 x2 x3 x4 x5 (nI M) vd vk (nI N) blo day la mem tld wei f0 f1 f2 f3 sal sin mo sw = some (1, nI (N + 1), upd blo N x4, upd day N x2, la', upd mem N x1, upd tld N x5, upd wei N x3, 0, 0, 0, 0, sal', sin', mo', sw') ∧ F_X12_shift x1 x2 x3 x4 x5 (nI M) (nI N) told blo day mem tld wei = some (1, nI (N + 1), 0, upd blo N x4, upd day N x2, upd mem N x1, upd tld N x5, upd wei N x3) ∧ Seated (upd mem N x1) (upd day N x2) (upd tld N x5) (upd blo N x4) (upd wei N x3) vd vk (N + 1) sin' sal' mo' sw') := by
  unfold F_X11_shift F_X12_shift
  rw [isMember_s, inside_day, inside_in (a := 99) (by decide) x3, inside_in (a := 5) (by decide) x4, isDay_s, isDay_s, inside_s, isIn_s, isIn_s, isIn_s]
  simp only [Option.bind_some, shift_62 hM hn]
  by_cases h1 : 0 ≤ x1 ∧ x1 < nI M
  rotate_left
  · exact Or.inl ⟨fun h => h1 h.1, by simp only [if_neg h1, if_true], by simp only [if_neg h1, if_true]⟩
  simp only [if_pos h1, if_neg one_ne]
  by_cases h2 : 0 ≤ x2 ∧ x2 ≤ 999
  rotate_left
  · exact Or.inl ⟨fun h => h2 h.2.1, by simp only [if_neg h2, if_true], by simp only [if_neg h2, if_true]⟩
  simp only [if_pos h2, if_neg one_ne]
  by_cases h3 : 0 ≤ x3 ∧ x3 ≤ 99
  rotate_left
  · exact Or.inl ⟨fun h => h3 h.2.2.1, by simp only [if_neg h3, if_true], by simp only [if_neg h3, if_true]⟩
  simp only [if_pos h3, if_neg one_ne]
  by_cases h4 : -1 ≤ x4 ∧ x4 ≤ 5
  rotate_left
  · have h4a : ¬ x4 = -1 := fun e => h4 ((bloc_in x4).mp (Or.inl e))
    have h4b : ¬ (0 ≤ x4 ∧ x4 ≤ 5) := fun e => h4 ((bloc_in x4).mp (Or.inr e))
    exact Or.inl ⟨fun h => h4 h.2.2.2.1, by simp only [if_neg h4a, if_neg h4b, if_true], by simp only [if_neg h4, if_true]⟩
  simp only [if_pos h4, if_neg one_ne]
  have both46 : (if x4 = -1 then F_X11_shift_46 x1 x2 x3 x4 x5 (nI M) vd vk (nI N) blo day la mem tld wei f0 f1 f2 f3 sal sin mo sw else if (if 0 ≤ x4 ∧ x4 ≤ 5 then (1 : Int32) else 0) = 0 then some (0, nI N, blo, day, la, mem, tld, wei, f0, f1, f2, f3, sal, sin, mo, sw) else F_X11_shift_46 x1 x2 x3 x4 x5 (nI M) vd vk (nI N) blo day la mem tld wei f0 f1 f2 f3 sal sin mo sw) = F_X11_shift_46 x1 x2 x3 x4 x5 (nI M) vd vk (nI N) blo day la mem tld wei f0 f1 f2 f3 sal sin mo sw := by
    rcases (bloc_in x4).mpr h4 with e | e
    · rw [if_pos e]
    · by_cases c : x4 = -1
      · rw [if_pos c]
      · rw [if_neg c, if_pos e, if_neg one_ne]
  rw [both46]
  unfold F_X11_shift_46
  rw [inside_day, isDay_s]
  simp only [Option.bind_some, shift_62 hM hn]
  by_cases h5 : 0 ≤ x5 ∧ x5 ≤ 999
  rotate_left
  · exact Or.inl ⟨fun h => h5 h.2.2.2.2.1, by simp only [if_neg h5, if_true], by simp only [if_neg h5, if_true]⟩
  simp only [if_pos h5, if_neg one_ne]
  unfold F_X11_shift_62
  rw [if_neg one_ne, lastTold_s hn, Option.bind_some]
  by_cases h6 : N = 200
  · subst h6
    refine Or.inl ⟨fun h => by have := h.2.2.2.2.2.1; omega, ?_, by rw [if_pos (show nI 200 = (200 : Int32) from rfl)]⟩
    by_cases c : x5 < (if 200 = 0 then 0 else tld (200 - 1))
    · rw [if_pos c]
    · rw [if_neg c, if_neg (by decide)]
  have hlt : N < 200 := by omega
  rw [if_neg (show ¬ nI N = (200 : Int32) from fun q => h6 ((nI_eq (b := 200) (by omega) (by omega)).mp q))]
  by_cases h7 : N = 0 ∨ tld (N - 1) ≤ x5
  · right
    refine ⟨⟨h1, h2, h3, h4, h5, hlt, h7⟩, ?_⟩
    have c : ¬ x5 < (if N = 0 then 0 else tld (N - 1)) := by
      rcases h7 with e | e
      · rw [if_pos e]; exact Int32.not_lt.mpr h5.1
      · by_cases e0 : N = 0
        · rw [if_pos e0]; exact Int32.not_lt.mpr h5.1
        · rw [if_neg e0]; exact Int32.not_lt.mpr e
    obtain ⟨m, hm31, em⟩ := nI_of (Int32.not_lt.mpr h1.1)
    have hm : m < M := (nI_ltI hm31 (by omega)).mp (em ▸ h1.2)
    have hmem' : ∀ i, i < N + 1 → ∃ mi, mi < 10 ∧ (upd mem N x1) i = nI mi := by
      intro i hi
      by_cases e : i = N
      · subst e; exact ⟨m, by omega, by rw [upd_self]; exact em⟩
      · obtain ⟨mi, q1, q2⟩ := hmem i (by omega)
        exact ⟨mi, by omega, by rw [upd_ne _ _ e]; exact q2⟩
    have hblo' : ∀ i, i < N + 1 → (upd blo N x4) i = -1 ∨ ∃ b, b < 6 ∧ (upd blo N x4) i = nI b := by
      intro i hi
      by_cases e : i = N
      · subst e
        rw [upd_self]
        rcases (bloc_in x4).mpr h4 with q | q
        · exact Or.inl q
        · obtain ⟨b, hb, eb⟩ := nI_of2 (x := x4) (M := 5) (n := 5) (by decide) (Int32.not_lt.mpr q.1) q.2
          exact Or.inr ⟨b, by omega, eb⟩
      · rw [upd_ne _ _ e]; exact hblo i (by omega)
    obtain ⟨la', sal', sin', mo', sw', q1, q2⟩ := seatAnew_s (mem := upd mem N x1) (day := upd day N x2) (tld := upd tld N x5) (blo := upd blo N x4) (wei := upd wei N x3) (N := N + 1) vd vk (by omega) hmem' hblo' f0 f1 f2 f3 sal sin la mo sw
    refine ⟨la', sal', sin', mo', sw', ?_, ?_, q2⟩
    · rw [if_neg c, if_pos (show nI N < (200 : Int32) from nI_lt (b := 200) hlt (by omega)), add_s hlt, Option.bind_some]
      dsimp only
      rw [q1, Option.bind_some]
    · by_cases e0 : N = 0
      · rw [if_pos (show nI N ≤ (0 : Int32) from by rw [e0]; decide), shift_87 hlt]
      · obtain ⟨n, rfl⟩ : ∃ n, N = n + 1 := ⟨N - 1, by omega⟩
        rw [if_neg (nI_nle (by omega) (by omega)), nI_pred, gin_n (by omega) (by omega), nI_clamp (by omega)]
        have e7 : tld n ≤ x5 := by
          rcases h7 with q | q
          · omega
          · rwa [Nat.add_sub_cancel] at q
        rw [if_pos e7, shift_87 hlt]
  · left
    have e0 : ¬ N = 0 := fun e => h7 (Or.inl e)
    obtain ⟨n, rfl⟩ : ∃ n, N = n + 1 := ⟨N - 1, by omega⟩
    have e7 : ¬ tld n ≤ x5 := fun e => h7 (Or.inr (by rw [Nat.add_sub_cancel]; exact e))
    refine ⟨fun h => h7 h.2.2.2.2.2.2, ?_, ?_⟩
    · rw [if_pos]
      rw [if_neg e0, Nat.add_sub_cancel]
      exact Int32.not_le.mp e7
    · rw [if_neg (nI_nle (by omega) (by omega)), nI_pred, gin_n (by omega) (by omega), nI_clamp (by omega), if_neg e7]
end VS
