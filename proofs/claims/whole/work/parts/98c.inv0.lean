def I0 : Nat → Int32 := (up (up (up (fun _ => 0) 1 (999 : Int32)) 2 (999 : Int32)) 12 (-1 : Int32))
def R0 : Nat → Nat → Int32 := (up (fun _ => (fun _ => 0)) 19 (fill_row (-1 : Int32) 10 (fun _ => 0)))
def J0 : Nat → Int32 := (up (up (up (fun _ => 0) 3 (999 : Int32)) 4 (999 : Int32)) 19 (-1 : Int32))
def wd0 : Nat → Int32 := (upd (upd (upd (upd (upd (upd (upd (upd (upd (upd (upd (upd (upd (upd (upd (upd (upd (upd (upd (upd (upd (upd (upd (upd (upd (upd (upd (upd (upd (upd (upd (upd (upd (upd (upd (upd (upd (upd (upd (upd (upd (upd (upd (upd (fun _ => 0) ((0 : Int32)).toNatClampNeg (32 : Int32)) ((1 : Int32)).toNatClampNeg (104 : Int32)) ((2 : Int32)).toNatClampNeg (101 : Int32)) ((3 : Int32)).toNatClampNeg (97 : Int32)) ((4 : Int32)).toNatClampNeg (100 : Int32)) ((5 : Int32)).toNatClampNeg (115 : Int32)) ((6 : Int32)).toNatClampNeg (32 : Int32)) ((7 : Int32)).toNatClampNeg (119 : Int32)) ((8 : Int32)).toNatClampNeg (101 : Int32)) ((9 : Int32)).toNatClampNeg (105 : Int32)) ((10 : Int32)).toNatClampNeg (103 : Int32)) ((11 : Int32)).toNatClampNeg (104 : Int32)) ((12 : Int32)).toNatClampNeg (116 : Int32)) ((13 : Int32)).toNatClampNeg (32 : Int32)) ((14 : Int32)).toNatClampNeg (109 : Int32)) ((15 : Int32)).toNatClampNeg (101 : Int32)) ((16 : Int32)).toNatClampNeg (109 : Int32)) ((17 : Int32)).toNatClampNeg (98 : Int32)) ((18 : Int32)).toNatClampNeg (101 : Int32)) ((19 : Int32)).toNatClampNeg (114 : Int32)) ((20 : Int32)).toNatClampNeg (115 : Int32)) ((21 : Int32)).toNatClampNeg (32 : Int32)) ((22 : Int32)).toNatClampNeg (97 : Int32)) ((23 : Int32)).toNatClampNeg (108 : Int32)) ((24 : Int32)).toNatClampNeg (108 : Int32)) ((25 : Int32)).toNatClampNeg (32 : Int32)) ((26 : Int32)).toNatClampNeg (111 : Int32)) ((27 : Int32)).toNatClampNeg (102 : Int32)) ((28 : Int32)).toNatClampNeg (32 : Int32)) ((29 : Int32)).toNatClampNeg (104 : Int32)) ((30 : Int32)).toNatClampNeg (97 : Int32)) ((31 : Int32)).toNatClampNeg (115 : Int32)) ((32 : Int32)).toNatClampNeg (32 : Int32)) ((33 : Int32)).toNatClampNeg (111 : Int32)) ((34 : Int32)).toNatClampNeg (114 : Int32)) ((35 : Int32)).toNatClampNeg (32 : Int32)) ((36 : Int32)).toNatClampNeg (97 : Int32)) ((37 : Int32)).toNatClampNeg (110 : Int32)) ((38 : Int32)).toNatClampNeg (100 : Int32)) ((39 : Int32)).toNatClampNeg (32 : Int32)) ((40 : Int32)).toNatClampNeg (110 : Int32)) ((41 : Int32)).toNatClampNeg (111 : Int32)) ((42 : Int32)).toNatClampNeg (116 : Int32)) ((43 : Int32)).toNatClampNeg (32 : Int32))
def Q0 : Nat → Nat → Int32 := (up (fun _ => (fun _ => 0)) 10 wd0)
theorem sB0 (mem day tld blo : Nat → Int32) (d k : Int32) (m : Nat) : sB mem day tld blo d k 0 m = -1 := by
  unfold sB
  exact if_pos (show bst mem day tld d k (nI m) 0 = -1 from rfl)
theorem Seated0 (mem day tld blo wei : Nat → Int32) (d k : Int32) : Seated mem day tld blo wei d k 0 0 0 (fun _ => 0) (fun _ => 0) := by
  refine ⟨?_, ?_, fun b hb => ?_, fun j hj => ?_⟩
  · have h : ∀ m, sAll mem day tld blo d k 0 m = 0 := by
      intro m
      induction m with
      | zero => rfl
      | succ m ih => show (if sB mem day tld blo d k 0 m = -1 then _ else _) = _; rw [if_pos (sB0 _ _ _ _ _ _ _)]; exact ih
    exact (h 10).symm
  · have h : ∀ m, sSum mem day tld blo wei d k 0 m = 0 := by
      intro m
      induction m with
      | zero => rfl
      | succ m ih => show (if sB mem day tld blo d k 0 m = -1 then _ else _) = _; rw [if_pos (sB0 _ _ _ _ _ _ _)]; exact ih
    exact (h 10).symm
  · have h : ∀ m, sOf mem day tld blo d k 0 b m = 0 := by
      intro m
      induction m with
      | zero => rfl
      | succ m ih =>
        show (if sB mem day tld blo d k 0 m = nI b then _ else _) = _
        rw [if_neg (fun e => neg1_ne (j := b) (by omega) (by rw [← e]; exact sB0 _ _ _ _ _ _ _))]; exact ih
    exact (h 10).symm
  · show (0 : Int32) = sW mem day tld blo wei d k 0 j
    unfold sW
    rw [if_pos (sB0 _ _ _ _ _ _ _)]
theorem Rule0 (r : Nat) (sin sal ti ts : Int32) (mo sw bits tr : Nat → Int32) : RI sin sal mo sw r 0 ti 0 ts (fun _ => 0) bits tr (fun _ => 0) (fun _ => 0) (fun _ => 0) :=
  ⟨[], ⟨⟨by decide, fun c h => absurd h List.not_mem_nil, Or.inl rfl⟩, rfl, fun j c h => by simp at h, rfl, fun j c h => by simp at h⟩, fun h => absurd rfl h, fun h => absurd rfl h⟩
theorem words0 : ∀ j : Fin 44, wd0 j.1 = nI (wdA j.1) := by decide +kernel
theorem Inv0 : Inv I0 R0 J0 Q0 := by
  refine ⟨0, 0, 0, 0, by decide, by decide, by decide, by decide, ⟨rfl, rfl⟩, ⟨rfl, rfl⟩, ⟨rfl, rfl⟩, ⟨rfl, rfl, rfl, rfl, rfl⟩, fun i h => absurd h (Nat.not_lt_zero _), fun i h => absurd h (Nat.not_lt_zero _), fun i h => absurd h (Nat.not_lt_zero _), Seated0 _ _ _ _ _ _ _, ⟨rfl, rfl, rfl, fun j hj => ⟨0, by decide, rfl⟩, rfl⟩, ⟨rfl, rfl⟩, fun j hj => words0 ⟨j, hj⟩, Rule0 _ _ _ _ _ _ _ _ _, Rule0 _ _ _ _ _ _ _ _ _, Rule0 _ _ _ _ _ _ _ _ _, Rule0 _ _ _ _ _ _ _ _ _, ?_, rfl, ⟨rfl, fun i hi => ⟨0, by decide, rfl⟩⟩, fun b hb => rfl⟩
  intro m hm
  refine Or.inl ⟨rfl, ?_⟩
  show (if m < 10 then (-1 : Int32) else _) = -1
  rw [if_pos hm]
