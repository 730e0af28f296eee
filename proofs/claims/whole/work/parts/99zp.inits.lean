/-! ===== constructors of the small classes ===== -/
section Init1
set_option maxRecDepth 100000
variable {xs : List Int32} {fv : Value} {d n : Nat}
theorem T_init {pre : aW} {N n' : Nat} (hN : pre.length = N) (hl : N + 2 ≤ 600000) (hn : n + 0 = n') (hn2 : n' ≤ 7000000) : Ru (gP xs fv) (d + 1) 86 (none, pre ++ [iniO 8 [.int 0, .int 0, .int 0, .int 0, .int 0, .int 0, .int 0, .int 0, .int 0, .int 0, .int 0]], n') (0, [some (.ref N)], [], pre ++ [iniO 8 [.int 0, .int 0, .int 0, .int 0, .int 0, .int 0, .int 0, .int 0, .int 0, .int 0, .int 0]], n) := by
  have hV : Clo (gP xs fv) (d + 1) 86 1 true (Ru (gP xs fv) (d + 1) 86 (none, pre ++ [iniO 8 [.int 0, .int 0, .int 0, .int 0, .int 0, .int 0, .int 0, .int 0, .int 0, .int 0, .int 0]], n')) := Ru_clo (q := mI86) rfl
  refine r_aload_n hV rfl rfl (pc' := 1) rfl ?_
  refine r_objI hV rfl rfl rfl (Nat.le_of_ble_eq_true rfl) (pc' := 4) rfl ?_
  exact v_ret (q := mI86) rfl rfl rfl (by rw [← hn]; rfl)
theorem K_init {pre : aW} {N n' : Nat} (hN : pre.length = N) (hl : N + 5 ≤ 600000) (hn : n + 53 = n') (hn2 : n' ≤ 7000000) : Ru (gP xs fv) (d + 1) 1 (none, pre ++ [iniO 0 [.ref (N + 1), .ref (N + 2), .ref (N + 3), .int 0, .int 0, .int 0, .int 0], iniI 5, iniI 24, iniI 24], n') (0, [some (.ref N)], [], pre ++ [iniO 0 [.null, .null, .null, .int 0, .int 0, .int 0, .int 0]], n) := by
  have hV : Clo (gP xs fv) (d + 1) 1 1 true (Ru (gP xs fv) (d + 1) 1 (none, pre ++ [iniO 0 [.ref (N + 1), .ref (N + 2), .ref (N + 3), .int 0, .int 0, .int 0, .int 0], iniI 5, iniI 24, iniI 24], n')) := Ru_clo (q := mI1) rfl
  refine r_aload_n hV rfl rfl (pc' := 1) rfl ?_
  refine r_objI hV rfl rfl rfl (Nat.le_of_ble_eq_true rfl) (pc' := 4) rfl ?_
  refine r_aload_n hV rfl rfl (pc' := 5) rfl ?_
  refine tt_iconst hV rfl (pc' := 6) rfl ?_
  refine k_newi hV (len := 5) (a := (N + 1)) (n' := n + 5) (t' := [iniO 0 [.null, .null, .null, .int 0, .int 0, .int 0, .int 0], iniI 5]) rfl rfl (by decide) hN rfl (by omega) (by omega) (by omega) rfl (pc' := 8) rfl ?_
  refine k_put hV 0 (a := N) (t' := [iniO 0 [.ref (N + 1), .null, .null, .int 0, .int 0, .int 0, .int 0], iniI 5]) rfl rfl (Or.inr ⟨rfl, rfl⟩) hN rfl rfl (Nat.le_of_ble_eq_true rfl) rfl rfl (pc' := 11) rfl ?_
  refine r_aload_n hV rfl rfl (pc' := 12) rfl ?_
  refine tt_bipush hV rfl (by decide) (pc' := 14) rfl ?_
  refine k_newi hV (len := 24) (a := (N + 2)) (n' := n + 29) (t' := [iniO 0 [.ref (N + 1), .null, .null, .int 0, .int 0, .int 0, .int 0], iniI 5, iniI 24]) rfl rfl (by decide) hN rfl (by omega) (by omega) (by omega) rfl (pc' := 16) rfl ?_
  refine k_put hV 0 (a := N) (t' := [iniO 0 [.ref (N + 1), .ref (N + 2), .null, .int 0, .int 0, .int 0, .int 0], iniI 5, iniI 24]) rfl rfl (Or.inr ⟨rfl, rfl⟩) hN rfl rfl (Nat.le_of_ble_eq_true rfl) rfl rfl (pc' := 19) rfl ?_
  refine r_aload_n hV rfl rfl (pc' := 20) rfl ?_
  refine tt_bipush hV rfl (by decide) (pc' := 22) rfl ?_
  refine k_newi hV (len := 24) (a := (N + 3)) (n' := n + 53) (t' := [iniO 0 [.ref (N + 1), .ref (N + 2), .null, .int 0, .int 0, .int 0, .int 0], iniI 5, iniI 24, iniI 24]) rfl rfl (by decide) hN rfl (by omega) (by omega) (by omega) rfl (pc' := 24) rfl ?_
  refine k_put hV 0 (a := N) (t' := [iniO 0 [.ref (N + 1), .ref (N + 2), .ref (N + 3), .int 0, .int 0, .int 0, .int 0], iniI 5, iniI 24, iniI 24]) rfl rfl (Or.inr ⟨rfl, rfl⟩) hN rfl rfl (Nat.le_of_ble_eq_true rfl) rfl rfl (pc' := 27) rfl ?_
  exact v_ret (q := mI1) rfl rfl rfl (by rw [← hn])
theorem R_init {pre : aW} {N n' : Nat} {x : Nat} (hN : pre.length = N) (hl : N + 4 ≤ 600000) (hn : n + 9 = n') (hn2 : n' ≤ 7000000) : Ru (gP xs fv) (d + 1) 12 (none, pre ++ [iniO 1 [.ref x, .ref (N + 1), .ref (N + 2), .int 0], iniI 5, iniI 4], n') (0, [some (.ref N), some (.ref x)], [], pre ++ [iniO 1 [.null, .null, .null, .int 0]], n) := by
  have hV : Clo (gP xs fv) (d + 1) 12 2 true (Ru (gP xs fv) (d + 1) 12 (none, pre ++ [iniO 1 [.ref x, .ref (N + 1), .ref (N + 2), .int 0], iniI 5, iniI 4], n')) := Ru_clo (q := mI12) rfl
  refine r_aload_n hV rfl rfl (pc' := 1) rfl ?_
  refine r_objI hV rfl rfl rfl (Nat.le_of_ble_eq_true rfl) (pc' := 4) rfl ?_
  refine r_aload_n hV rfl rfl (pc' := 5) rfl ?_
  refine tt_iconst hV rfl (pc' := 6) rfl ?_
  refine k_newi hV (len := 5) (a := (N + 1)) (n' := n + 5) (t' := [iniO 1 [.null, .null, .null, .int 0], iniI 5]) rfl rfl (by decide) hN rfl (by omega) (by omega) (by omega) rfl (pc' := 8) rfl ?_
  refine k_put hV 0 (a := N) (t' := [iniO 1 [.null, .ref (N + 1), .null, .int 0], iniI 5]) rfl rfl (Or.inr ⟨rfl, rfl⟩) hN rfl rfl (Nat.le_of_ble_eq_true rfl) rfl rfl (pc' := 11) rfl ?_
  refine r_aload_n hV rfl rfl (pc' := 12) rfl ?_
  refine tt_iconst hV rfl (pc' := 13) rfl ?_
  refine k_newi hV (len := 4) (a := (N + 2)) (n' := n + 9) (t' := [iniO 1 [.null, .ref (N + 1), .null, .int 0], iniI 5, iniI 4]) rfl rfl (by decide) hN rfl (by omega) (by omega) (by omega) rfl (pc' := 15) rfl ?_
  refine k_put hV 0 (a := N) (t' := [iniO 1 [.null, .ref (N + 1), .ref (N + 2), .int 0], iniI 5, iniI 4]) rfl rfl (Or.inr ⟨rfl, rfl⟩) hN rfl rfl (Nat.le_of_ble_eq_true rfl) rfl rfl (pc' := 18) rfl ?_
  refine r_aload_n hV rfl rfl (pc' := 19) rfl ?_
  refine r_aload_n hV rfl rfl (pc' := 20) rfl ?_
  refine k_put hV 0 (a := N) (t' := [iniO 1 [.ref x, .ref (N + 1), .ref (N + 2), .int 0], iniI 5, iniI 4]) rfl rfl (Or.inr ⟨rfl, rfl⟩) hN rfl rfl (Nat.le_of_ble_eq_true rfl) rfl rfl (pc' := 23) rfl ?_
  exact v_ret (q := mI12) rfl rfl rfl (by rw [← hn])
theorem F_init {pre : aW} {N n' x : Nat} (hN : pre.length = N) (hl : N + 3 ≤ 600000) (hn : n + x = n') (hn2 : n' ≤ 7000000) (hx : x ≤ 100000) : Ru (gP xs fv) (d + 1) 18 (none, pre ++ [iniO 2 [.ref (N + 1), .int 0], iniI x], n') (0, [some (.ref N), some (vI x)], [], pre ++ [iniO 2 [.null, .int 0]], n) := by
  have hV : Clo (gP xs fv) (d + 1) 18 2 true (Ru (gP xs fv) (d + 1) 18 (none, pre ++ [iniO 2 [.ref (N + 1), .int 0], iniI x], n')) := Ru_clo (q := mI18) rfl
  refine r_aload_n hV rfl rfl (pc' := 1) rfl ?_
  refine r_objI hV rfl rfl rfl (Nat.le_of_ble_eq_true rfl) (pc' := 4) rfl ?_
  refine r_aload_n hV rfl rfl (pc' := 5) rfl ?_
  refine r_iload_n hV rfl rfl (pc' := 6) rfl ?_
  refine k_newi hV (len := x) (a := N + 1) (n' := n') (t' := [iniO 2 [.null, .int 0], iniI x]) rfl rfl hx hN rfl (by omega) hn hn2 rfl (pc' := 8) rfl ?_
  refine k_put hV 0 (a := N) (t' := [iniO 2 [.ref (N + 1), .int 0], iniI x]) rfl rfl (Or.inr ⟨rfl, rfl⟩) hN rfl rfl (Nat.le_of_ble_eq_true rfl) rfl rfl (pc' := 11) rfl ?_
  exact v_ret (q := mI18) rfl rfl rfl rfl
theorem P_init {pre : aW} {N n' : Nat} {x : Nat} (hN : pre.length = N) (hl : N + 3 ≤ 600000) (hn : n + 241 = n') (hn2 : n' ≤ 7000000) : Ru (gP xs fv) (d + 1) 37 (none, pre ++ [iniO 5 [.ref x, .ref (N + 1), .int 0, .int 0], iniI 241], n') (0, [some (.ref N), some (.ref x)], [], pre ++ [iniO 5 [.null, .null, .int 0, .int 0]], n) := by
  have hV : Clo (gP xs fv) (d + 1) 37 2 true (Ru (gP xs fv) (d + 1) 37 (none, pre ++ [iniO 5 [.ref x, .ref (N + 1), .int 0, .int 0], iniI 241], n')) := Ru_clo (q := mI37) rfl
  refine r_aload_n hV rfl rfl (pc' := 1) rfl ?_
  refine r_objI hV rfl rfl rfl (Nat.le_of_ble_eq_true rfl) (pc' := 4) rfl ?_
  refine r_aload_n hV rfl rfl (pc' := 5) rfl ?_
  refine tt_sipush hV rfl (by decide) (pc' := 8) rfl ?_
  refine k_newi hV (len := 241) (a := (N + 1)) (n' := n + 241) (t' := [iniO 5 [.null, .null, .int 0, .int 0], iniI 241]) rfl rfl (by decide) hN rfl (by omega) (by omega) (by omega) rfl (pc' := 10) rfl ?_
  refine k_put hV 0 (a := N) (t' := [iniO 5 [.null, .ref (N + 1), .int 0, .int 0], iniI 241]) rfl rfl (Or.inr ⟨rfl, rfl⟩) hN rfl rfl (Nat.le_of_ble_eq_true rfl) rfl rfl (pc' := 13) rfl ?_
  refine r_aload_n hV rfl rfl (pc' := 14) rfl ?_
  refine r_aload_n hV rfl rfl (pc' := 15) rfl ?_
  refine k_put hV 0 (a := N) (t' := [iniO 5 [.ref x, .ref (N + 1), .int 0, .int 0], iniI 241]) rfl rfl (Or.inr ⟨rfl, rfl⟩) hN rfl rfl (Nat.le_of_ble_eq_true rfl) rfl rfl (pc' := 18) rfl ?_
  exact v_ret (q := mI37) rfl rfl rfl (by rw [← hn])
theorem S_init {pre : aW} {N n' : Nat} {x : Nat} (hN : pre.length = N) (hl : N + 4 ≤ 600000) (hn : n + 46 = n') (hn2 : n' ≤ 7000000) : Ru (gP xs fv) (d + 1) 78 (none, pre ++ [iniO 7 [.ref x, .null, .int 0, .int 0, .int 0, .ref (N + 1), .ref (N + 2)], iniI 6, iniI 40], n') (0, [some (.ref N), some (.ref x)], [], pre ++ [iniO 7 [.null, .null, .int 0, .int 0, .int 0, .null, .null]], n) := by
  have hV : Clo (gP xs fv) (d + 1) 78 2 true (Ru (gP xs fv) (d + 1) 78 (none, pre ++ [iniO 7 [.ref x, .null, .int 0, .int 0, .int 0, .ref (N + 1), .ref (N + 2)], iniI 6, iniI 40], n')) := Ru_clo (q := mI78) rfl
  refine r_aload_n hV rfl rfl (pc' := 1) rfl ?_
  refine r_objI hV rfl rfl rfl (Nat.le_of_ble_eq_true rfl) (pc' := 4) rfl ?_
  refine r_aload_n hV rfl rfl (pc' := 5) rfl ?_
  refine tt_bipush hV rfl (by decide) (pc' := 7) rfl ?_
  refine k_newi hV (len := 6) (a := (N + 1)) (n' := n + 6) (t' := [iniO 7 [.null, .null, .int 0, .int 0, .int 0, .null, .null], iniI 6]) rfl rfl (by decide) hN rfl (by omega) (by omega) (by omega) rfl (pc' := 9) rfl ?_
  refine k_put hV 0 (a := N) (t' := [iniO 7 [.null, .null, .int 0, .int 0, .int 0, .ref (N + 1), .null], iniI 6]) rfl rfl (Or.inr ⟨rfl, rfl⟩) hN rfl rfl (Nat.le_of_ble_eq_true rfl) rfl rfl (pc' := 12) rfl ?_
  refine r_aload_n hV rfl rfl (pc' := 13) rfl ?_
  refine tt_bipush hV rfl (by decide) (pc' := 15) rfl ?_
  refine k_newi hV (len := 40) (a := (N + 2)) (n' := n + 46) (t' := [iniO 7 [.null, .null, .int 0, .int 0, .int 0, .ref (N + 1), .null], iniI 6, iniI 40]) rfl rfl (by decide) hN rfl (by omega) (by omega) (by omega) rfl (pc' := 17) rfl ?_
  refine k_put hV 0 (a := N) (t' := [iniO 7 [.null, .null, .int 0, .int 0, .int 0, .ref (N + 1), .ref (N + 2)], iniI 6, iniI 40]) rfl rfl (Or.inr ⟨rfl, rfl⟩) hN rfl rfl (Nat.le_of_ble_eq_true rfl) rfl rfl (pc' := 20) rfl ?_
  refine r_aload_n hV rfl rfl (pc' := 21) rfl ?_
  refine r_aload_n hV rfl rfl (pc' := 22) rfl ?_
  refine k_put hV 0 (a := N) (t' := [iniO 7 [.ref x, .null, .int 0, .int 0, .int 0, .ref (N + 1), .ref (N + 2)], iniI 6, iniI 40]) rfl rfl (Or.inl rfl) hN rfl rfl (Nat.le_of_ble_eq_true rfl) rfl rfl (pc' := 25) rfl ?_
  exact v_ret (q := mI78) rfl rfl rfl (by rw [← hn])
theorem B_init {pre : aW} {N n' : Nat} (hN : pre.length = N) (hl : N + 3 ≤ 600000) (hn : n + 240 = n') (hn2 : n' ≤ 7000000) : Ru (gP xs fv) (d + 1) 98 (none, pre ++ [iniO 9 [.ref (N + 1), .int 0], iniC 240], n') (0, [some (.ref N)], [], pre ++ [iniO 9 [.null, .int 0]], n) := by
  have hV : Clo (gP xs fv) (d + 1) 98 1 true (Ru (gP xs fv) (d + 1) 98 (none, pre ++ [iniO 9 [.ref (N + 1), .int 0], iniC 240], n')) := Ru_clo (q := mI98) rfl
  refine r_aload_n hV rfl rfl (pc' := 1) rfl ?_
  refine r_objI hV rfl rfl rfl (Nat.le_of_ble_eq_true rfl) (pc' := 4) rfl ?_
  refine r_aload_n hV rfl rfl (pc' := 5) rfl ?_
  refine tt_sipush hV rfl (by decide) (pc' := 8) rfl ?_
  refine k_newc hV (len := 240) (a := (N + 1)) (n' := n + 240) (t' := [iniO 9 [.null, .int 0], iniC 240]) rfl rfl (by decide) hN rfl (by omega) (by omega) (by omega) rfl (pc' := 10) rfl ?_
  refine k_put hV 0 (a := N) (t' := [iniO 9 [.ref (N + 1), .int 0], iniC 240]) rfl rfl (Or.inr ⟨rfl, rfl⟩) hN rfl rfl (Nat.le_of_ble_eq_true rfl) rfl rfl (pc' := 13) rfl ?_
  exact v_ret (q := mI98) rfl rfl rfl (by rw [← hn])
end Init1
