theorem m153 (xs : List Int32) (fv : Value) (d : Nat) {w : aW} {n a c : Nat} {fs cfs : List Value} {mc : Int32} (h0 : w[a]? = some (some (.inr (11, fs)))) (h1 : fs[6]? = some (.ref c)) (h2 : w[c]? = some (some (.inr (0, cfs)))) (h3 : cfs[4]? = some (.int mc)) : Ru (gP xs fv) d 153 (some (.int (if mc ≤ 0 then 0 else 1)), w, n) (0, aEnt 1 [.ref a], [], w, n) := by
  have hV : Clo (gP xs fv) d 153 1 false (Ru (gP xs fv) d 153 (some (.int (if mc ≤ 0 then 0 else 1)), w, n)) := Ru_clo (q := mI153) rfl
  refine r_aload_n hV (x := a) rfl rfl (pc' := 1) rfl ?_
  refine r_getf hV rfl rfl (by decide) h0 h1 (pc' := 4) rfl ?_
  refine r_getf hV rfl rfl (by decide) h2 h3 (pc' := 7) rfl ?_
  refine r_if_le hV rfl (pt := 14) (by decide) (pf := 10) rfl (fun h => ?_) (fun h => ?_)
  · refine v_iconst hV 0 rfl (by decide) (pc' := 15) rfl ?_
    exact v_ret (q := mI153) rfl rfl rfl (by rw [if_pos h])
  · refine v_iconst hV 1 rfl (by decide) (pc' := 11) rfl ?_
    refine r_goto hV rfl (pc' := 15) (by decide) ?_
    exact v_ret (q := mI153) rfl rfl rfl (by rw [if_neg h])
