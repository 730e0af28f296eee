/-! ===== constructors: the history ===== -/
section Init4
set_option maxRecDepth 100000
variable {xs : List Int32} {fv : Value} {d n : Nat}
abbrev iniT : Option aC := iniO 8 [.int 0, .int 0, .int 0, .int 0, .int 0, .int 0, .int 0, .int 0, .int 0, .int 0, .int 0]
abbrev iniS (a : Nat) : Option aC := some (.inl (.object "SledgeVote$State", .inr (.inr (aRefs 40 (fun j => (a : Int) + j)))))
def hA (N i : Nat) : Option aC := some (.inl (.object "SledgeVote$State", .inr (.inr (aRefs 40 (fun j => if j < i then ((N + 5 : Nat) : Int) + j else -1)))))
def hT (N i : Nat) : aW := iniO 3 [.int 0, .int 0, .ref (N + 1), .ref (N + 2), .int 0, .ref (N + 3), .ref (N + 4)] :: iniI 1024 :: hA N i :: iniT :: iniI 60 :: List.replicate i iniT
theorem hA_0 (N : Nat) : hA N 0 = iniR "SledgeVote$State" 40 := by
  unfold hA
  rw [aRefs_z (fun j _ => by rw [if_neg (by omega)]; decide)]
theorem hA_40 (N : Nat) : hA N 40 = iniS (N + 5) := by
  unfold hA aRefs
  have e : (List.range 40).map (fun i : Nat => if (if (i : Int) < ((40 : Nat) : Int) then ((N + 5 : Nat) : Int) + i else -1) < 0 then none else some (if (i : Int) < ((40 : Nat) : Int) then ((N + 5 : Nat) : Int) + i else -1).toNat) = (List.range 40).map (fun i : Nat => if ((N + 5 : Nat) : Int) + (i : Int) < 0 then none else some (((N + 5 : Nat) : Int) + (i : Int)).toNat) := List.map_congr_left (fun i hi => by
    have := List.mem_range.mp hi
    rw [if_pos (show (i : Int) < ((40 : Nat) : Int) by omega)])
  rw [e]
  rfl
theorem aRefs_set {f : Int → Int} {len i v : Nat} (hi : i < len) : (aRefs len f).set (i : Int).toNat (some v) = aRefs len (fun j => if j = (i : Int) then (v : Int) else f j) := by
  have e : (some v : Option Nat) = (fun z : Int => if z < 0 then none else some z.toNat) (v : Int) := by
    show some v = if (v : Int) < 0 then none else some ((v : Int)).toNat
    rw [if_neg (by omega), Int.toNat_natCast]
  unfold aRefs
  rw [e, setMap (F := fun z : Int => if z < 0 then none else some z.toNat) (by omega)]
theorem hA_set {N i : Nat} (hi : i < 40) : some (.inl (.object "SledgeVote$State", .inr (.inr ((aRefs 40 (fun j => if j < i then ((N + 5 : Nat) : Int) + j else -1)).set (i : Int).toNat (some (N + (i + 5))))))) = hA N (i + 1) := by
  unfold hA
  rw [aRefs_set (by omega)]
  have ef : (fun j : Int => if j = (i : Int) then ((N + (i + 5) : Nat) : Int) else if j < (i : Int) then ((N + 5 : Nat) : Int) + j else -1) = (fun j : Int => if j < ((i + 1 : Nat) : Int) then ((N + 5 : Nat) : Int) + j else -1) := by
    funext j
    by_cases h1 : j = (i : Int)
    · rw [if_pos h1, if_pos (by omega)]; omega
    · by_cases h2 : j < (i : Int)
      · rw [if_neg h1, if_pos h2, if_pos (by omega)]
      · rw [if_neg h1, if_neg h2, if_neg (by omega)]
  rw [ef]
theorem hT_app (N i : Nat) : hT N i ++ [iniT] = iniO 3 [.int 0, .int 0, .ref (N + 1), .ref (N + 2), .int 0, .ref (N + 3), .ref (N + 4)] :: iniI 1024 :: hA N i :: iniT :: iniI 60 :: List.replicate (i + 1) iniT := by
  rw [List.replicate_succ']
  rfl
theorem hT_len (N i : Nat) : (hT N i).length = i + 5 := by
  unfold hT
  simp
theorem H_loop {pre : aW} {N n' : Nat} (hN : pre.length = N) (hl : N + 50 ≤ 600000) (hn2 : n' ≤ 7000000) : ∀ (k i n : Nat), i + k = 40 → n + 11 * k = n' → Ru (gP xs fv) (d + 2) 22 (none, pre ++ hT N 40, n') (43, [some (.ref N), some (vI i)], [], pre ++ hT N i, n) := by
  have hV : Clo (gP xs fv) (d + 2) 22 2 true (Ru (gP xs fv) (d + 2) 22 (none, pre ++ hT N 40, n')) := Ru_clo (q := mI22) rfl
  intro k
  induction k with
  | zero =>
    intro i n hi hn
    have e : i = 40 := by omega
    rw [e]
    refine r_iload_n hV rfl rfl (pc' := 44) rfl ?_
    refine tt_bipush hV rfl (by decide) (pc' := 46) rfl ?_
    refine tt_icmp_ge hV rfl (by decide) (by decide) (pt := 68) (by decide) (pf := 49) rfl (fun _ => ?_) (fun h => absurd (by decide) h)
    exact v_ret (q := mI22) rfl rfl rfl (by rw [← hn]; rfl)
  | succ k ih =>
    intro i n hi hn
    refine r_iload_n hV rfl rfl (pc' := 44) rfl ?_
    refine tt_bipush hV rfl (by decide) (pc' := 46) rfl ?_
    refine tt_icmp_ge hV rfl (by omega) (by decide) (pt := 68) (by decide) (pf := 49) rfl (fun h => absurd h (by omega)) (fun _ => ?_)
    refine r_aload_n hV rfl rfl (pc' := 50) rfl ?_
    refine k_get hV 0 (a := N) (v := .ref (N + 2)) rfl rfl (by decide) hN rfl rfl rfl (pc' := 53) rfl ?_
    refine r_iload_n hV rfl rfl (pc' := 54) rfl ?_
    refine k_new hV (fl := 11) (a := N + (i + 5)) (n' := n + 11) (t' := hT N i ++ [iniT]) rfl rfl rfl hN (by rw [hT_len]) (by omega) rfl rfl (by omega) rfl (pc' := 57) rfl ?_
    refine r_dup hV rfl rfl (pc' := 58) rfl ?_
    refine k_calli hV (n' := n + 11) (t' := hT N i ++ [iniT]) (hT N i) [iniT] rfl rfl (by decide) rfl rfl rfl (Nat.le_of_ble_eq_true rfl) (Nat.le_of_ble_eq_true rfl) rfl rfl (T_init (xs := xs) (fv := fv) (d := d) (n := n + 11) (n' := n + 11) (pre := pre ++ hT N i) (N := N + (i + 5)) (by rw [List.length_append, hN, hT_len]) (by omega) rfl (by omega)) rfl (pc' := 61) rfl ?_
    have e2 : (pre ++ (hT N i ++ [iniT]))[N + 2]? = some (some (.inl (.object "SledgeVote$State", .inr (.inr (aRefs 40 (fun j => if j < i then ((N + 5 : Nat) : Int) + j else -1)))))) := (k_at N 2 hN).trans rfl
    have e3 : (pre ++ (hT N i ++ [iniT]))[N + (i + 5)]? = some iniT := by
      rw [k_at N (i + 5) hN, hT_app]
      show (List.replicate (i + 1) iniT)[i]? = some iniT
      rw [List.getElem?_replicate, if_pos (by omega)]
    have e4 : (aRefs 40 (fun j => if j < (i : Int) then ((N + 5 : Nat) : Int) + j else -1)).length = 40 := by simp [aRefs]
    refine k_aast hV (ci := 8) (w' := pre ++ hT N (i + 1)) rfl e2 e3 rfl (gOcs (X := (xs, fv, [], 0))).2 (by rw [e4]; decide) (by rw [e4]; omega) ?_ (pc' := 62) rfl ?_
    · rw [k_set N 2 hN, hA_set (by omega), hT_app]
      rfl
    · refine tz_iinc1 hV rfl rfl (y := ((i + 1 : Nat) : Int)) (by omega) (pc' := 65) rfl ?_
      refine r_goto hV rfl (pc' := 43) (by decide) ?_
      exact ih (i + 1) (n + 11) (by omega) (by omega)
theorem H_init {pre : aW} {N n' : Nat} (hN : pre.length = N) (hl : N + 50 ≤ 600000) (hn : n + 1575 = n') (hn2 : n' ≤ 7000000) : Ru (gP xs fv) (d + 2) 22 (none, pre ++ [iniO 3 [.int 0, .int 0, .ref (N + 1), .ref (N + 2), .int 0, .ref (N + 3), .ref (N + 4)], iniI 1024, iniS (N + 5), iniO 8 [.int 0, .int 0, .int 0, .int 0, .int 0, .int 0, .int 0, .int 0, .int 0, .int 0, .int 0], iniI 60, iniO 8 [.int 0, .int 0, .int 0, .int 0, .int 0, .int 0, .int 0, .int 0, .int 0, .int 0, .int 0], iniO 8 [.int 0, .int 0, .int 0, .int 0, .int 0, .int 0, .int 0, .int 0, .int 0, .int 0, .int 0], iniO 8 [.int 0, .int 0, .int 0, .int 0, .int 0, .int 0, .int 0, .int 0, .int 0, .int 0, .int 0], iniO 8 [.int 0, .int 0, .int 0, .int 0, .int 0, .int 0, .int 0, .int 0, .int 0, .int 0, .int 0], iniO 8 [.int 0, .int 0, .int 0, .int 0, .int 0, .int 0, .int 0, .int 0, .int 0, .int 0, .int 0], iniO 8 [.int 0, .int 0, .int 0, .int 0, .int 0, .int 0, .int 0, .int 0, .int 0, .int 0, .int 0], iniO 8 [.int 0, .int 0, .int 0, .int 0, .int 0, .int 0, .int 0, .int 0, .int 0, .int 0, .int 0], iniO 8 [.int 0, .int 0, .int 0, .int 0, .int 0, .int 0, .int 0, .int 0, .int 0, .int 0, .int 0], iniO 8 [.int 0, .int 0, .int 0, .int 0, .int 0, .int 0, .int 0, .int 0, .int 0, .int 0, .int 0], iniO 8 [.int 0, .int 0, .int 0, .int 0, .int 0, .int 0, .int 0, .int 0, .int 0, .int 0, .int 0], iniO 8 [.int 0, .int 0, .int 0, .int 0, .int 0, .int 0, .int 0, .int 0, .int 0, .int 0, .int 0], iniO 8 [.int 0, .int 0, .int 0, .int 0, .int 0, .int 0, .int 0, .int 0, .int 0, .int 0, .int 0], iniO 8 [.int 0, .int 0, .int 0, .int 0, .int 0, .int 0, .int 0, .int 0, .int 0, .int 0, .int 0], iniO 8 [.int 0, .int 0, .int 0, .int 0, .int 0, .int 0, .int 0, .int 0, .int 0, .int 0, .int 0], iniO 8 [.int 0, .int 0, .int 0, .int 0, .int 0, .int 0, .int 0, .int 0, .int 0, .int 0, .int 0], iniO 8 [.int 0, .int 0, .int 0, .int 0, .int 0, .int 0, .int 0, .int 0, .int 0, .int 0, .int 0], iniO 8 [.int 0, .int 0, .int 0, .int 0, .int 0, .int 0, .int 0, .int 0, .int 0, .int 0, .int 0], iniO 8 [.int 0, .int 0, .int 0, .int 0, .int 0, .int 0, .int 0, .int 0, .int 0, .int 0, .int 0], iniO 8 [.int 0, .int 0, .int 0, .int 0, .int 0, .int 0, .int 0, .int 0, .int 0, .int 0, .int 0], iniO 8 [.int 0, .int 0, .int 0, .int 0, .int 0, .int 0, .int 0, .int 0, .int 0, .int 0, .int 0], iniO 8 [.int 0, .int 0, .int 0, .int 0, .int 0, .int 0, .int 0, .int 0, .int 0, .int 0, .int 0], iniO 8 [.int 0, .int 0, .int 0, .int 0, .int 0, .int 0, .int 0, .int 0, .int 0, .int 0, .int 0], iniO 8 [.int 0, .int 0, .int 0, .int 0, .int 0, .int 0, .int 0, .int 0, .int 0, .int 0, .int 0], iniO 8 [.int 0, .int 0, .int 0, .int 0, .int 0, .int 0, .int 0, .int 0, .int 0, .int 0, .int 0], iniO 8 [.int 0, .int 0, .int 0, .int 0, .int 0, .int 0, .int 0, .int 0, .int 0, .int 0, .int 0], iniO 8 [.int 0, .int 0, .int 0, .int 0, .int 0, .int 0, .int 0, .int 0, .int 0, .int 0, .int 0], iniO 8 [.int 0, .int 0, .int 0, .int 0, .int 0, .int 0, .int 0, .int 0, .int 0, .int 0, .int 0], iniO 8 [.int 0, .int 0, .int 0, .int 0, .int 0, .int 0, .int 0, .int 0, .int 0, .int 0, .int 0], iniO 8 [.int 0, .int 0, .int 0, .int 0, .int 0, .int 0, .int 0, .int 0, .int 0, .int 0, .int 0], iniO 8 [.int 0, .int 0, .int 0, .int 0, .int 0, .int 0, .int 0, .int 0, .int 0, .int 0, .int 0], iniO 8 [.int 0, .int 0, .int 0, .int 0, .int 0, .int 0, .int 0, .int 0, .int 0, .int 0, .int 0], iniO 8 [.int 0, .int 0, .int 0, .int 0, .int 0, .int 0, .int 0, .int 0, .int 0, .int 0, .int 0], iniO 8 [.int 0, .int 0, .int 0, .int 0, .int 0, .int 0, .int 0, .int 0, .int 0, .int 0, .int 0], iniO 8 [.int 0, .int 0, .int 0, .int 0, .int 0, .int 0, .int 0, .int 0, .int 0, .int 0, .int 0], iniO 8 [.int 0, .int 0, .int 0, .int 0, .int 0, .int 0, .int 0, .int 0, .int 0, .int 0, .int 0], iniO 8 [.int 0, .int 0, .int 0, .int 0, .int 0, .int 0, .int 0, .int 0, .int 0, .int 0, .int 0], iniO 8 [.int 0, .int 0, .int 0, .int 0, .int 0, .int 0, .int 0, .int 0, .int 0, .int 0, .int 0], iniO 8 [.int 0, .int 0, .int 0, .int 0, .int 0, .int 0, .int 0, .int 0, .int 0, .int 0, .int 0], iniO 8 [.int 0, .int 0, .int 0, .int 0, .int 0, .int 0, .int 0, .int 0, .int 0, .int 0, .int 0], iniO 8 [.int 0, .int 0, .int 0, .int 0, .int 0, .int 0, .int 0, .int 0, .int 0, .int 0, .int 0]], n') (0, [some (.ref N), none], [], pre ++ [iniO 3 [.int 0, .int 0, .null, .null, .int 0, .null, .null]], n) := by
  have e40 : [iniO 3 [.int 0, .int 0, .ref (N + 1), .ref (N + 2), .int 0, .ref (N + 3), .ref (N + 4)], iniI 1024, iniS (N + 5), iniO 8 [.int 0, .int 0, .int 0, .int 0, .int 0, .int 0, .int 0, .int 0, .int 0, .int 0, .int 0], iniI 60, iniO 8 [.int 0, .int 0, .int 0, .int 0, .int 0, .int 0, .int 0, .int 0, .int 0, .int 0, .int 0], iniO 8 [.int 0, .int 0, .int 0, .int 0, .int 0, .int 0, .int 0, .int 0, .int 0, .int 0, .int 0], iniO 8 [.int 0, .int 0, .int 0, .int 0, .int 0, .int 0, .int 0, .int 0, .int 0, .int 0, .int 0], iniO 8 [.int 0, .int 0, .int 0, .int 0, .int 0, .int 0, .int 0, .int 0, .int 0, .int 0, .int 0], iniO 8 [.int 0, .int 0, .int 0, .int 0, .int 0, .int 0, .int 0, .int 0, .int 0, .int 0, .int 0], iniO 8 [.int 0, .int 0, .int 0, .int 0, .int 0, .int 0, .int 0, .int 0, .int 0, .int 0, .int 0], iniO 8 [.int 0, .int 0, .int 0, .int 0, .int 0, .int 0, .int 0, .int 0, .int 0, .int 0, .int 0], iniO 8 [.int 0, .int 0, .int 0, .int 0, .int 0, .int 0, .int 0, .int 0, .int 0, .int 0, .int 0], iniO 8 [.int 0, .int 0, .int 0, .int 0, .int 0, .int 0, .int 0, .int 0, .int 0, .int 0, .int 0], iniO 8 [.int 0, .int 0, .int 0, .int 0, .int 0, .int 0, .int 0, .int 0, .int 0, .int 0, .int 0], iniO 8 [.int 0, .int 0, .int 0, .int 0, .int 0, .int 0, .int 0, .int 0, .int 0, .int 0, .int 0], iniO 8 [.int 0, .int 0, .int 0, .int 0, .int 0, .int 0, .int 0, .int 0, .int 0, .int 0, .int 0], iniO 8 [.int 0, .int 0, .int 0, .int 0, .int 0, .int 0, .int 0, .int 0, .int 0, .int 0, .int 0], iniO 8 [.int 0, .int 0, .int 0, .int 0, .int 0, .int 0, .int 0, .int 0, .int 0, .int 0, .int 0], iniO 8 [.int 0, .int 0, .int 0, .int 0, .int 0, .int 0, .int 0, .int 0, .int 0, .int 0, .int 0], iniO 8 [.int 0, .int 0, .int 0, .int 0, .int 0, .int 0, .int 0, .int 0, .int 0, .int 0, .int 0], iniO 8 [.int 0, .int 0, .int 0, .int 0, .int 0, .int 0, .int 0, .int 0, .int 0, .int 0, .int 0], iniO 8 [.int 0, .int 0, .int 0, .int 0, .int 0, .int 0, .int 0, .int 0, .int 0, .int 0, .int 0], iniO 8 [.int 0, .int 0, .int 0, .int 0, .int 0, .int 0, .int 0, .int 0, .int 0, .int 0, .int 0], iniO 8 [.int 0, .int 0, .int 0, .int 0, .int 0, .int 0, .int 0, .int 0, .int 0, .int 0, .int 0], iniO 8 [.int 0, .int 0, .int 0, .int 0, .int 0, .int 0, .int 0, .int 0, .int 0, .int 0, .int 0], iniO 8 [.int 0, .int 0, .int 0, .int 0, .int 0, .int 0, .int 0, .int 0, .int 0, .int 0, .int 0], iniO 8 [.int 0, .int 0, .int 0, .int 0, .int 0, .int 0, .int 0, .int 0, .int 0, .int 0, .int 0], iniO 8 [.int 0, .int 0, .int 0, .int 0, .int 0, .int 0, .int 0, .int 0, .int 0, .int 0, .int 0], iniO 8 [.int 0, .int 0, .int 0, .int 0, .int 0, .int 0, .int 0, .int 0, .int 0, .int 0, .int 0], iniO 8 [.int 0, .int 0, .int 0, .int 0, .int 0, .int 0, .int 0, .int 0, .int 0, .int 0, .int 0], iniO 8 [.int 0, .int 0, .int 0, .int 0, .int 0, .int 0, .int 0, .int 0, .int 0, .int 0, .int 0], iniO 8 [.int 0, .int 0, .int 0, .int 0, .int 0, .int 0, .int 0, .int 0, .int 0, .int 0, .int 0], iniO 8 [.int 0, .int 0, .int 0, .int 0, .int 0, .int 0, .int 0, .int 0, .int 0, .int 0, .int 0], iniO 8 [.int 0, .int 0, .int 0, .int 0, .int 0, .int 0, .int 0, .int 0, .int 0, .int 0, .int 0], iniO 8 [.int 0, .int 0, .int 0, .int 0, .int 0, .int 0, .int 0, .int 0, .int 0, .int 0, .int 0], iniO 8 [.int 0, .int 0, .int 0, .int 0, .int 0, .int 0, .int 0, .int 0, .int 0, .int 0, .int 0], iniO 8 [.int 0, .int 0, .int 0, .int 0, .int 0, .int 0, .int 0, .int 0, .int 0, .int 0, .int 0], iniO 8 [.int 0, .int 0, .int 0, .int 0, .int 0, .int 0, .int 0, .int 0, .int 0, .int 0, .int 0], iniO 8 [.int 0, .int 0, .int 0, .int 0, .int 0, .int 0, .int 0, .int 0, .int 0, .int 0, .int 0], iniO 8 [.int 0, .int 0, .int 0, .int 0, .int 0, .int 0, .int 0, .int 0, .int 0, .int 0, .int 0], iniO 8 [.int 0, .int 0, .int 0, .int 0, .int 0, .int 0, .int 0, .int 0, .int 0, .int 0, .int 0], iniO 8 [.int 0, .int 0, .int 0, .int 0, .int 0, .int 0, .int 0, .int 0, .int 0, .int 0, .int 0], iniO 8 [.int 0, .int 0, .int 0, .int 0, .int 0, .int 0, .int 0, .int 0, .int 0, .int 0, .int 0], iniO 8 [.int 0, .int 0, .int 0, .int 0, .int 0, .int 0, .int 0, .int 0, .int 0, .int 0, .int 0]] = hT N 40 := by
    unfold hT
    rw [hA_40]
    rfl
  rw [e40]
  have hV : Clo (gP xs fv) (d + 2) 22 2 true (Ru (gP xs fv) (d + 2) 22 (none, pre ++ hT N 40, n')) := Ru_clo (q := mI22) rfl
  refine r_aload_n hV rfl rfl (pc' := 1) rfl ?_
  refine r_objI hV rfl rfl rfl (Nat.le_of_ble_eq_true rfl) (pc' := 4) rfl ?_
  refine r_aload_n hV rfl rfl (pc' := 5) rfl ?_
  refine tt_sipush hV rfl (by decide) (pc' := 8) rfl ?_
  refine k_newi hV (len := 1024) (a := (N + 1)) (n' := n + 1024) (t' := [iniO 3 [.int 0, .int 0, .null, .null, .int 0, .null, .null], iniI 1024]) rfl rfl (by decide) hN rfl (by omega) (by omega) (by omega) rfl (pc' := 10) rfl ?_
  refine k_put hV 0 (a := N) (t' := [iniO 3 [.int 0, .int 0, .ref (N + 1), .null, .int 0, .null, .null], iniI 1024]) rfl rfl (Or.inr ⟨rfl, rfl⟩) hN rfl rfl (Nat.le_of_ble_eq_true rfl) rfl rfl (pc' := 13) rfl ?_
  refine r_aload_n hV rfl rfl (pc' := 14) rfl ?_
  refine tt_bipush hV rfl (by decide) (pc' := 16) rfl ?_
  refine k_newr hV (len := 40) (C := "SledgeVote$State") (a := (N + 2)) (n' := n + 1064) (t' := [iniO 3 [.int 0, .int 0, .ref (N + 1), .null, .int 0, .null, .null], iniI 1024, iniR "SledgeVote$State" 40]) rfl rfl rfl (gOcs (X := (xs, fv, [], 0))).2 rfl (by decide) hN rfl (by omega) (by omega) (by omega) rfl (pc' := 19) rfl ?_
  refine k_put hV 0 (a := N) (t' := [iniO 3 [.int 0, .int 0, .ref (N + 1), .ref (N + 2), .int 0, .null, .null], iniI 1024, iniR "SledgeVote$State" 40]) rfl rfl (Or.inr ⟨rfl, rfl⟩) hN rfl rfl (Nat.le_of_ble_eq_true rfl) rfl rfl (pc' := 22) rfl ?_
  refine r_aload_n hV rfl rfl (pc' := 23) rfl ?_
  refine k_new hV (fl := 11) (a := (N + 3)) (n' := n + 1075) (t' := [iniO 3 [.int 0, .int 0, .ref (N + 1), .ref (N + 2), .int 0, .null, .null], iniI 1024, iniR "SledgeVote$State" 40, iniO 8 [.int 0, .int 0, .int 0, .int 0, .int 0, .int 0, .int 0, .int 0, .int 0, .int 0, .int 0]]) rfl rfl rfl hN rfl (by omega) rfl (by omega) (by omega) rfl (pc' := 26) rfl ?_
  refine r_dup hV rfl rfl (pc' := 27) rfl ?_
  refine k_calli hV (n' := n + 1075) (t' := [iniO 3 [.int 0, .int 0, .ref (N + 1), .ref (N + 2), .int 0, .null, .null], iniI 1024, iniR "SledgeVote$State" 40, iniO 8 [.int 0, .int 0, .int 0, .int 0, .int 0, .int 0, .int 0, .int 0, .int 0, .int 0, .int 0]]) [iniO 3 [.int 0, .int 0, .ref (N + 1), .ref (N + 2), .int 0, .null, .null], iniI 1024, iniR "SledgeVote$State" 40] [iniO 8 [.int 0, .int 0, .int 0, .int 0, .int 0, .int 0, .int 0, .int 0, .int 0, .int 0, .int 0]] rfl rfl (by decide) rfl rfl rfl (Nat.le_of_ble_eq_true rfl) (Nat.le_of_ble_eq_true rfl) rfl rfl ?_ rfl (pc' := 30) rfl ?_
  · have h := T_init (xs := xs) (fv := fv) (d := d) (n := n + 1075) (n' := n + 1075) (pre := pre ++ [iniO 3 [.int 0, .int 0, .ref (N + 1), .ref (N + 2), .int 0, .null, .null], iniI 1024, iniR "SledgeVote$State" 40]) (N := (N + 3)) (by rw [List.length_append, hN]; rfl) (by omega) (by omega) (by omega)
    exact h
  refine k_put hV 0 (a := N) (t' := [iniO 3 [.int 0, .int 0, .ref (N + 1), .ref (N + 2), .int 0, .ref (N + 3), .null], iniI 1024, iniR "SledgeVote$State" 40, iniO 8 [.int 0, .int 0, .int 0, .int 0, .int 0, .int 0, .int 0, .int 0, .int 0, .int 0, .int 0]]) rfl rfl (Or.inr ⟨rfl, rfl⟩) hN rfl rfl (Nat.le_of_ble_eq_true rfl) rfl rfl (pc' := 33) rfl ?_
  refine r_aload_n hV rfl rfl (pc' := 34) rfl ?_
  refine tt_bipush hV rfl (by decide) (pc' := 36) rfl ?_
  refine k_newi hV (len := 60) (a := (N + 4)) (n' := n + 1135) (t' := [iniO 3 [.int 0, .int 0, .ref (N + 1), .ref (N + 2), .int 0, .ref (N + 3), .null], iniI 1024, iniR "SledgeVote$State" 40, iniO 8 [.int 0, .int 0, .int 0, .int 0, .int 0, .int 0, .int 0, .int 0, .int 0, .int 0, .int 0], iniI 60]) rfl rfl (by decide) hN rfl (by omega) (by omega) (by omega) rfl (pc' := 38) rfl ?_
  refine k_put hV 0 (a := N) (t' := [iniO 3 [.int 0, .int 0, .ref (N + 1), .ref (N + 2), .int 0, .ref (N + 3), .ref (N + 4)], iniI 1024, iniR "SledgeVote$State" 40, iniO 8 [.int 0, .int 0, .int 0, .int 0, .int 0, .int 0, .int 0, .int 0, .int 0, .int 0, .int 0], iniI 60]) rfl rfl (Or.inr ⟨rfl, rfl⟩) hN rfl rfl (Nat.le_of_ble_eq_true rfl) rfl rfl (pc' := 41) rfl ?_
  refine tt_iconst hV rfl (pc' := 42) rfl ?_
  refine r_istore_n hV rfl (Nat.le_of_ble_eq_true rfl) rfl (pc' := 43) rfl ?_
  have e0 : [iniO 3 [.int 0, .int 0, .ref (N + 1), .ref (N + 2), .int 0, .ref (N + 3), .ref (N + 4)], iniI 1024, iniR "SledgeVote$State" 40, iniO 8 [.int 0, .int 0, .int 0, .int 0, .int 0, .int 0, .int 0, .int 0, .int 0, .int 0, .int 0], iniI 60] = hT N 0 := by
    unfold hT
    rw [hA_0]
    rfl
  rw [e0]
  exact H_loop hN hl hn2 40 0 (n + 1135) rfl (by omega)
end Init4
