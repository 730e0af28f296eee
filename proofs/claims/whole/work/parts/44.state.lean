/-! ===== the class: State ===== -/
section Mst
variable (xs : List Int32) (fv : Value) (d n : Nat)
theorem c_of {p k : Int} {w : aW} : Ru (gP xs fv) d 87 (some (vI (nib p k)), w, n) (0, [some (vI p), some (vI k)], [], w, n) := by
  have hV : Clo (gP xs fv) d 87 2 false (Ru (gP xs fv) d 87 (some (vI (nib p k)), w, n)) := Ru_clo (q := mI87) rfl
  refine r_iload_n hV rfl rfl (pc' := 1) rfl ?_
  refine r_iload_n hV rfl rfl (pc' := 2) rfl ?_
  refine tt_iconst hV rfl (pc' := 3) rfl ?_
  refine tt_imul hV rfl (pc' := 4) rfl ?_
  refine tt_ishr hV rfl (pc' := 5) rfl ?_
  refine tt_bipush hV rfl (by decide) (pc' := 7) rfl ?_
  refine tt_iand hV rfl (pc' := 8) rfl ?_
  exact v_ret (q := mI87) rfl rfl rfl rfl
theorem c_with {p k v : Int} {w : aW} : Ru (gP xs fv) d 88 (some (vI (wth p k v)), w, n) (0, [some (vI p), some (vI k), some (vI v), none], [], w, n) := by
  have hV : Clo (gP xs fv) d 88 4 false (Ru (gP xs fv) d 88 (some (vI (wth p k v)), w, n)) := Ru_clo (q := mI88) rfl
  refine r_iload_n hV rfl rfl (pc' := 1) rfl ?_
  refine tt_iconst hV rfl (pc' := 2) rfl ?_
  refine tt_imul hV rfl (pc' := 3) rfl ?_
  refine tt_istore3 hV rfl rfl (pc' := 4) rfl ?_
  refine r_iload_n hV rfl rfl (pc' := 5) rfl ?_
  refine tt_bipush hV rfl (by decide) (pc' := 7) rfl ?_
  refine r_iload_n hV rfl rfl (pc' := 8) rfl ?_
  refine tt_ishl hV rfl (pc' := 9) rfl ?_
  refine tt_iconst hV rfl (pc' := 10) rfl ?_
  refine tt_ixor hV rfl (pc' := 11) rfl ?_
  refine tt_iand hV rfl (pc' := 12) rfl ?_
  refine r_iload_n hV rfl rfl (pc' := 13) rfl ?_
  refine r_iload_n hV rfl rfl (pc' := 14) rfl ?_
  refine tt_ishl hV rfl (pc' := 15) rfl ?_
  refine tt_ior hV rfl (pc' := 16) rfl ?_
  exact v_ret (q := mI88) rfl rfl rfl rfl
theorem c_weightOf {sh : List Sh} {m : Mm} {s : Nat} {k : Int} (hs : sh[s]? = some stS) : Ru (gP xs fv) d 89 (some (vI (nib (m s 0) k)), Wd sh m, n) (0, [some (.ref s), some (vI k)], [], Wd sh m, n) := by
  have hV : Clo (gP xs fv) d 89 2 false (Ru (gP xs fv) d 89 (some (vI (nib (m s 0) k)), Wd sh m, n)) := Ru_clo (q := mI89) rfl
  refine r_aload_n hV rfl rfl (pc' := 1) rfl ?_
  refine tt_getI hV (tg := 0) (ci := 8) (kf := 0) rfl rfl (by decide) hs rfl (by decide) (pc' := 4) rfl ?_
  refine r_iload_n hV rfl rfl (pc' := 5) rfl ?_
  refine tt_iconst hV rfl (pc' := 6) rfl ?_
  refine tt_imul hV rfl (pc' := 7) rfl ?_
  refine tt_ishr hV rfl (pc' := 8) rfl ?_
  refine tt_bipush hV rfl (by decide) (pc' := 10) rfl ?_
  refine tt_iand hV rfl (pc' := 11) rfl ?_
  exact v_ret (q := mI89) rfl rfl rfl rfl
theorem c_leanOf {sh : List Sh} {m : Mm} {s : Nat} {k : Int} (hs : sh[s]? = some stS) : Ru (gP xs fv) d 90 (some (vI (nib (m s 1) k)), Wd sh m, n) (0, [some (.ref s), some (vI k)], [], Wd sh m, n) := by
  have hV : Clo (gP xs fv) d 90 2 false (Ru (gP xs fv) d 90 (some (vI (nib (m s 1) k)), Wd sh m, n)) := Ru_clo (q := mI90) rfl
  refine r_aload_n hV rfl rfl (pc' := 1) rfl ?_
  refine tt_getI hV (tg := 0) (ci := 8) (kf := 1) rfl rfl (by decide) hs rfl (by decide) (pc' := 4) rfl ?_
  refine r_iload_n hV rfl rfl (pc' := 5) rfl ?_
  refine tt_iconst hV rfl (pc' := 6) rfl ?_
  refine tt_imul hV rfl (pc' := 7) rfl ?_
  refine tt_ishr hV rfl (pc' := 8) rfl ?_
  refine tt_bipush hV rfl (by decide) (pc' := 10) rfl ?_
  refine tt_iand hV rfl (pc' := 11) rfl ?_
  exact v_ret (q := mI90) rfl rfl rfl rfl
theorem c_heelsOf {sh : List Sh} {m : Mm} {s : Nat} {k : Int} (hs : sh[s]? = some stS) : Ru (gP xs fv) d 91 (some (vI (nib (m s 2) k)), Wd sh m, n) (0, [some (.ref s), some (vI k)], [], Wd sh m, n) := by
  have hV : Clo (gP xs fv) d 91 2 false (Ru (gP xs fv) d 91 (some (vI (nib (m s 2) k)), Wd sh m, n)) := Ru_clo (q := mI91) rfl
  refine r_aload_n hV rfl rfl (pc' := 1) rfl ?_
  refine tt_getI hV (tg := 0) (ci := 8) (kf := 2) rfl rfl (by decide) hs rfl (by decide) (pc' := 4) rfl ?_
  refine r_iload_n hV rfl rfl (pc' := 5) rfl ?_
  refine tt_iconst hV rfl (pc' := 6) rfl ?_
  refine tt_imul hV rfl (pc' := 7) rfl ?_
  refine tt_ishr hV rfl (pc' := 8) rfl ?_
  refine tt_bipush hV rfl (by decide) (pc' := 10) rfl ?_
  refine tt_iand hV rfl (pc' := 11) rfl ?_
  exact v_ret (q := mI91) rfl rfl rfl rfl
theorem c_seatOf {sh : List Sh} {m : Mm} {s : Nat} {k : Int} (hs : sh[s]? = some stS) : Ru (gP xs fv) d 92 (some (vI (nib (m s 3) k)), Wd sh m, n) (0, [some (.ref s), some (vI k)], [], Wd sh m, n) := by
  have hV : Clo (gP xs fv) d 92 2 false (Ru (gP xs fv) d 92 (some (vI (nib (m s 3) k)), Wd sh m, n)) := Ru_clo (q := mI92) rfl
  refine r_aload_n hV rfl rfl (pc' := 1) rfl ?_
  refine tt_getI hV (tg := 0) (ci := 8) (kf := 3) rfl rfl (by decide) hs rfl (by decide) (pc' := 4) rfl ?_
  refine r_iload_n hV rfl rfl (pc' := 5) rfl ?_
  refine tt_iconst hV rfl (pc' := 6) rfl ?_
  refine tt_imul hV rfl (pc' := 7) rfl ?_
  refine tt_ishr hV rfl (pc' := 8) rfl ?_
  refine tt_bipush hV rfl (by decide) (pc' := 10) rfl ?_
  refine tt_iand hV rfl (pc' := 11) rfl ?_
  exact v_ret (q := mI92) rfl rfl rfl rfl
theorem c_isAboard {sh : List Sh} {m : Mm} {s : Nat} {k : Int} (hs : sh[s]? = some stS) : Ru (gP xs fv) d 93 (some (vI (bit (m s 4) k)), Wd sh m, n) (0, [some (.ref s), some (vI k)], [], Wd sh m, n) := by
  have hV : Clo (gP xs fv) d 93 2 false (Ru (gP xs fv) d 93 (some (vI (bit (m s 4) k)), Wd sh m, n)) := Ru_clo (q := mI93) rfl
  refine r_aload_n hV rfl rfl (pc' := 1) rfl ?_
  refine tt_getI hV (tg := 0) (ci := 8) (kf := 4) rfl rfl (by decide) hs rfl (by decide) (pc' := 4) rfl ?_
  refine r_iload_n hV rfl rfl (pc' := 5) rfl ?_
  refine tt_ishr hV rfl (pc' := 6) rfl ?_
  refine tt_iconst hV rfl (pc' := 7) rfl ?_
  refine tt_iand hV rfl (pc' := 8) rfl ?_
  refine tt_iconst hV rfl (pc' := 9) rfl ?_
  refine tt_icmp_ne hV rfl (i32R _) (by omega) (pt := 16) (by decide) (pf := 12) rfl (fun h9 => ?_) (fun h9 => ?_)
  · refine tt_iconst hV rfl (pc' := 17) rfl ?_
    exact v_ret (q := mI93) rfl rfl rfl (vI_c (by have := bit01 (m s 4) k; unfold bit at *; omega))
  · refine tt_iconst hV rfl (pc' := 13) rfl ?_
    refine r_goto hV rfl (pc' := 17) (by decide) ?_
    exact v_ret (q := mI93) rfl rfl rfl (vI_c (by have := bit01 (m s 4) k; unfold bit at *; omega))
end Mst
