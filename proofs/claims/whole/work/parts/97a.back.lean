def bz (x : Int32) : Int32 := if x = 0 then 0 else 1
theorem lbz {p : Program} {l : Launch} {e : Env} {R : Room} {s : State} {m : MethodId} {args : Array Value} {below : List Frame} {meth : Method} {c : Code} {H : Heap} {locs : List Loc} {cells slots : Nat} {Q : State → Prop} {cc : ByteArray} {pc : Nat} {ls : Array Slot} {rest : List Value} {x : Int32} (hx : p.tables.exec = Jvm.exec) (hb : c.code = cc) (d1 : decode cc pc = .ok (.ifCond .eq 7, 3)) (d2 : decode cc (pc + 3) = .ok (.iconst 1, 1)) (d3 : decode cc (pc + 4) = .ok (.goto 4, 3)) (d4 : decode cc (pc + 7) = .ok (.iconst 0, 1))
    (k : W p l e R s m args below meth c H locs cells slots Q (F0 m (pc + 8) ls (.int (bz x) :: rest))) : W p l e R s m args below meth c H locs cells slots Q (F0 m pc ls (.int x :: rest)) := by
  refine lv_if_eq (tgt := pc + 7) hx hb d1 (by omega) (fun c1 => ?_) (fun c1 => ?_)
  · refine lv_iconst (v := (0 : Int32)) hx hb d4 (by decide) ?_
    rw [show bz x = 0 by unfold bz; rw [if_pos c1]] at k
    exact k
  · refine lv_iconst (v := (1 : Int32)) hx hb d2 (by decide) ?_
    refine lv_goto (tgt := pc + 8) hx hb d3 (by omega) ?_
    rw [show bz x = 1 by unfold bz; rw [if_neg c1]] at k
    exact k
theorem lg_cmp_rf (x : Int64) : lg_cmp x x = 0 := by
  unfold lg_cmp
  rw [if_neg (by exact Int64.lt_irrefl), if_pos rfl]
theorem sin_ok {i k L : Nat} (hi : i + 6 ≤ L) (hL : L ≤ 3072) (hk : k < 6) : vp_in (nI i + nI k) L := by
  rw [show nI i + nI k = nI (i + k) from nI_add i k]
  exact vp_in_nI (by omega) (by omega)
/-- where the law comes to behind a call -/
def Back (p : Program) (l : Launch) (e : Env) (s : State) (m : MethodId) (below : List Frame) (meth : Method) (c : Code) (b : Nat) (D : va_G) (cI cZ cR : ClassId) (ad : Nat → Nat) (ls : Array Slot) : Prop := ∀ (I : Nat → Int32) (R : Nat → Nat → Int32) (J : Nat → Int32) (Q : Nat → Nat → Int32) (H : Heap) (locs : List Loc), Inv I R J Q → va_P D vwCl (wX cI cZ cR ad I R ++ wM cI cZ cR ad J Q) H → va_D (lA s) (wX cI cZ cR ad I R ++ wM cI cZ cR ad J Q) → va_S (lA s) s.heap H locs → LW p l e s m below meth c b H locs 1199 ls []
