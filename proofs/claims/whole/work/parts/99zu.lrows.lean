/-! ===== the law's own cases: rules ===== -/
/-- a number of the script -/
def sc (xs : List Int32) (j : Int) : Int := (xs.getD j.toNat 0).toInt
theorem sc_r (xs : List Int32) (j : Int) : R3 (sc xs j) := i32R _
abbrev lL (i : Int) (o5 o6 : Option Value) : aL := [some (.ref aK), some (.ref 0), some (.ref 83), some (.ref 113), some (vI i), o5, o6]
section LRows
variable {X : Cx} {V : aS → Prop} {m : Mm} {o5 o6 : Option Value} {S : List Value} {n : Nat} {sh : List Sh}
theorem s_rd0 (hV : Clo (gP X.1 X.2.1) 800 0 7 false V) {pc pc' : Nat} {i : Int} (h1 : pC (gP X.1 X.2.1) 0 pc = some (.aload_n 0, 1)) (h2 : pC (gP X.1 X.2.1) 0 (pc + 1) = some (.iload 4, 2)) (h5 : pC (gP X.1 X.2.1) 0 (pc + 1 + 2) = some (.iaload, 1)) (hp : pc + 1 + 2 + 1 = pc') (hw : sh.length ≤ 1000000) (hl : X.1.length ≤ 3072) (hj : 0 ≤ i ∧ i < X.1.length) (kk : V (pc', lL i o5 o6, vI (sc X.1 i) :: S, Wd sh m, n)) : V (pc, lL i o5 o6, S, Wd sh m, n) := by
  refine r_aload_n hV h1 rfl rfl ?_
  refine r_iload hV h2 rfl rfl ?_
  exact tt_ieald hV h5 (v := sc X.1 i) (Nat.le_trans hw (Nat.le_refl _)) rfl (by omega) (by omega) rfl hp kk
theorem s_rd (hV : Clo (gP X.1 X.2.1) 800 0 7 false V) {pc pc' : Nat} {i : Int} (k : Int) (h1 : pC (gP X.1 X.2.1) 0 pc = some (.aload_n 0, 1)) (h2 : pC (gP X.1 X.2.1) 0 (pc + 1) = some (.iload 4, 2)) (h3 : pC (gP X.1 X.2.1) 0 (pc + 1 + 2) = some (.iconst k, 1)) (h4 : pC (gP X.1 X.2.1) 0 (pc + 1 + 2 + 1) = some (.iadd, 1)) (h5 : pC (gP X.1 X.2.1) 0 (pc + 1 + 2 + 1 + 1) = some (.iaload, 1)) (hw : sh.length ≤ 1000000) (hl : X.1.length ≤ 3072) (hj : 0 ≤ i + k ∧ i + k < X.1.length) (hp : pc + 1 + 2 + 1 + 1 + 1 = pc') (kk : V (pc', lL i o5 o6, vI (sc X.1 (i + k)) :: S, Wd sh m, n)) : V (pc, lL i o5 o6, S, Wd sh m, n) := by
  refine r_aload_n hV h1 rfl rfl ?_
  refine r_iload hV h2 rfl rfl ?_
  refine tt_iconst hV h3 rfl ?_
  refine tt_iadd hV h4 rfl ?_
  exact tt_ieald hV h5 (v := sc X.1 (i + k)) (Nat.le_trans hw (Nat.le_refl _)) rfl (by omega) (by omega) rfl hp kk
/-- not nought -/
def bz (x : Int) : Int := if x = 0 then 0 else 1
theorem bz_r (x : Int) : bz x = 0 ∨ bz x = 1 := by unfold bz; split <;> simp
theorem s_bz (hV : Clo (gP X.1 X.2.1) 800 0 7 false V) {pc pc' : Nat} {x : Int} {Lo : aL} (hx : R3 x) (h1 : pC (gP X.1 X.2.1) 0 pc = some (.ifCond .eq 7, 3)) (h2 : pC (gP X.1 X.2.1) 0 (pc + 3) = some (.iconst 1, 1)) (h3 : pC (gP X.1 X.2.1) 0 (pc + 4) = some (.goto 4, 3)) (h4 : pC (gP X.1 X.2.1) 0 (pc + 7) = some (.iconst 0, 1)) (hp : pc + 8 = pc') (kk : V (pc', Lo, vI (bz x) :: S, Wd sh m, n)) : V (pc, Lo, vI x :: S, Wd sh m, n) := by
  refine tt_if_eq hV h1 hx (pt := pc + 7) (by omega) (pf := pc + 3) rfl (fun h => ?_) (fun h => ?_)
  · refine tt_iconst hV h4 (pc' := pc') (by omega) ?_
    unfold bz at kk
    rw [if_pos h] at kk
    exact kk
  · refine tt_iconst hV h2 (pc' := pc + 4) rfl ?_
    refine r_goto hV h3 (pc' := pc') (by omega) ?_
    unfold bz at kk
    rw [if_neg h] at kk
    exact kk
end LRows
