/-! ===== texts: indexOf, charAt ===== -/
def kdO (c : Int) : Int := if c = 115 then 0 else if c = 98 then 1 else if c = 105 then 2 else if c = 109 then 3 else -1
def xLET : List Int := [119, 111, 103, 114, 121, 114, 99, 107, 100, 114, 119, 108, 104, 115]
def xKIN : List Int := [115, 98, 105, 109]
def xLTR : List Int := [119, 104, 112, 110, 114, 99]
section Strs
variable {g : aPg} {d mi mL : Nat} {ini : Bool} {V : aS → Prop} {pc pc' : Nat} {L : aL} {S r : List Value} {w : aW} {n : Nat}
theorem r_egv (hV : Clo g d mi mL ini V) {idx a b : Nat} {z : Int} (hC : pC g mi pc = some (.getfield idx, 3)) (hl : pL g mi idx = some (8, 0, z)) (he : pE g a = some (.inr (.inr b))) (hp : pc + 3 = pc') (k : V (pc', L, .ref b :: r, w, n)) : V (pc, L, .ref a :: r, w, n) := by
  subst hp
  exact hV _ _ _ _ 0 hC (by simp only [st1, s0, sQ, sA, sB, sI, sJ, sG, sH, iL, hl, he]; rfl) k
theorem r_egc (hV : Clo g d mi mL ini V) {idx a b : Nat} {z : Int} (hC : pC g mi pc = some (.getfield idx, 3)) (hl : pL g mi idx = some (8, 1, z)) (he : pE g a = some (.inr (.inr b))) (hp : pc + 3 = pc') (k : V (pc', L, vI 0 :: r, w, n)) : V (pc, L, .ref a :: r, w, n) := by
  subst hp
  exact hV _ _ _ _ 0 hC (by simp only [st1, s0, sQ, sA, sB, sI, sJ, sG, sH, iL, hl, he]; rfl) k
theorem r_ebald (hV : Clo g d mi mL ini V) {a : Nat} {j : Int32} {xs : List Int32} {v : Int32} (hC : pC g mi pc = some (.baload, 1)) (hw : w[a]? = none) (he : pE g a = some (.inr (.inl xs))) (hj : aIx xs j = some v) (hp : pc + 1 = pc') (k : V (pc', L, .int v :: r, w, n)) : V (pc, L, .int j :: .ref a :: r, w, n) := by
  subst hp
  exact hV _ _ _ _ 0 hC (by simp only [st1, s0, sQ, sA, sB, sI, sJ, sG, sH, iL, hw, he, hj]; rfl) k
theorem r_eblen (hV : Clo g d mi mL ini V) {a : Nat} {xs : List Int32} (hC : pC g mi pc = some (.arraylength, 1)) (hw : w[a]? = none) (he : pE g a = some (.inr (.inl xs))) (hp : pc + 1 = pc') (k : V (pc', L, .int (Int32.ofNat xs.length) :: r, w, n)) : V (pc, L, .ref a :: r, w, n) := by
  subst hp
  exact hV _ _ _ _ 0 hC (by simp only [st1, s0, sQ, sA, sB, sI, sJ, sG, sH, iL, hw, he]; rfl) k
theorem r_cxV (hV : Clo g (d + 1) mi mL ini V) {idx k ck mL' n' b zz np : Nat} {y : MethodName} {cc : ByteArray} {ret : Option FieldType} {ini' : Bool} {as rest : List Value} {w' : aW} {v : Value} (hC : pC g mi pc = some (.invokevirtual idx, 3)) (hl : pL g mi idx = some (1, k, 4)) (hI : pI g k = some (y, cc, mL', ret, np, ck, ini')) (ht : (S.take np).reverse = as) (hd : S.drop np = .ref b :: rest) (hw : w[b]? = none) (he : pE g b = some (.inr (.inr zz))) (hcat : (rest.map fun v => v.category).sum ≤ 8) (hfl : (aFl (.ref b :: as)).length ≤ mL') (hL : L.length = mL) (hr : Ru g d k (some v, w', n') (0, aEnt mL' (.ref b :: as), [], w, n)) (hp : pc + 3 = pc') (kk : V (pc', L, v :: rest, w', n')) : V (pc, L, S, w, n) := by
  subst ht
  refine r_call hV hC rfl hL ?_ ?_ hr rfl hp kk
  · simp [s0, sQ, sA, sB, sI, sJ, sG, sH, sM, sN, iL]
  · simp only [sC, hl, hI, hd, hw, he]
    rw [if_pos ⟨trivial, hcat, hfl⟩]
end Strs
section Strs2
variable {xs : List Int32} {fv : Value} {d n : Nat} {w : aW} {z b : Nat} {T : List Int}
/-- a text outside: its bytes -/
def TxAt (xs : List Int32) (fv : Value) (w : aW) (z b : Nat) (T : List Int) : Prop := w[z]? = none ∧ w[b]? = none ∧ pE (gP xs fv) z = some (.inr (.inr b)) ∧ pE (gP xs fv) b = some (.inr (.inl (T.map Int32.ofInt)))
theorem st_latin (h : TxAt xs fv w z b T) : Ru (gP xs fv) d 294 (some (vI 1), w, n) (0, [some (.ref z)], [], w, n) := by
  have hV : Clo (gP xs fv) d 294 1 false (Ru (gP xs fv) d 294 (some (vI 1), w, n)) := Ru_clo (q := mI294) rfl
  refine r_gets hV rfl rfl rfl (pc' := 3) rfl ?_
  refine r_if_eq hV rfl (pt := 17) (by decide) (pf := 6) rfl (fun hc => absurd hc (by decide)) (fun _ => ?_)
  refine r_aload_n hV rfl rfl (pc' := 7) rfl ?_
  refine r_egc hV rfl rfl h.2.2.1 (pc' := 10) rfl ?_
  refine r_if_ne hV rfl (pt := 17) (by decide) (pf := 13) rfl (fun hc => absurd rfl hc) (fun _ => ?_)
  refine tt_iconst hV rfl (pc' := 14) rfl ?_
  refine r_goto hV rfl (pc' := 18) (by decide) ?_
  exact v_ret (q := mI294) rfl rfl rfl rfl
theorem st_coder (h : TxAt xs fv w z b T) : Ru (gP xs fv) d 293 (some (vI 0), w, n) (0, [some (.ref z)], [], w, n) := by
  have hV : Clo (gP xs fv) d 293 1 false (Ru (gP xs fv) d 293 (some (vI 0), w, n)) := Ru_clo (q := mI293) rfl
  refine r_gets hV rfl rfl rfl (pc' := 3) rfl ?_
  refine r_if_eq hV rfl (pt := 13) (by decide) (pf := 6) rfl (fun hc => absurd hc (by decide)) (fun _ => ?_)
  refine r_aload_n hV rfl rfl (pc' := 7) rfl ?_
  refine r_egc hV rfl rfl h.2.2.1 (pc' := 10) rfl ?_
  refine r_goto hV rfl (pc' := 14) (by decide) ?_
  exact v_ret (q := mI293) rfl rfl rfl rfl
theorem st_len (h : TxAt xs fv w z b T) (hT : T.length ≤ 100) : Ru (gP xs fv) (d + 1) 289 (some (vI T.length), w, n) (0, [some (.ref z)], [], w, n) := by
  have hV : Clo (gP xs fv) (d + 1) 289 1 false (Ru (gP xs fv) (d + 1) 289 (some (vI T.length), w, n)) := Ru_clo (q := mI289) rfl
  refine r_aload_n hV rfl rfl (pc' := 1) rfl ?_
  refine r_egv hV rfl rfl h.2.2.1 (pc' := 4) rfl ?_
  refine r_eblen hV rfl h.2.1 h.2.2.2 (pc' := 5) rfl ?_
  refine r_aload_n hV rfl rfl (pc' := 6) rfl ?_
  refine r_cxV hV rfl rfl rfl rfl rfl h.1 h.2.2.1 (Nat.le_of_ble_eq_true rfl) (Nat.le_of_ble_eq_true rfl) rfl (st_coder h) (pc' := 9) rfl ?_
  refine r_ishr hV rfl (pc' := 10) rfl ?_
  have e : Int32.ofNat (T.map Int32.ofInt).length >>> (Int32.ofInt 0 &&& 31) = Int32.ofInt T.length := by
    rw [List.length_map]
    exact (by decide +kernel : ∀ k : Nat, k ≤ 100 → Int32.ofNat k >>> (Int32.ofInt 0 &&& 31) = Int32.ofInt (k : Int)) _ hT
  rw [e]
  exact v_ret (q := mI289) rfl rfl rfl rfl
theorem st_can {v : Int} (hv : 0 ≤ v ∧ v ≤ 255) : Ru (gP xs fv) d 297 (some (vI 1), w, n) (0, [some (vI v)], [], w, n) := by
  have hV : Clo (gP xs fv) d 297 1 false (Ru (gP xs fv) d 297 (some (vI 1), w, n)) := Ru_clo (q := mI297) rfl
  refine r_iload_n hV rfl rfl (pc' := 1) rfl ?_
  refine tt_if_lt hV rfl (by omega) (pt := 15) (by decide) (pf := 4) rfl (fun hc => by omega) (fun _ => ?_)
  refine r_iload_n hV rfl rfl (pc' := 5) rfl ?_
  refine tt_sipush hV rfl rfl (pc' := 8) rfl ?_
  refine tt_icmp_gt hV rfl (by omega) (by decide) (pt := 15) (by decide) (pf := 11) rfl (fun hc => by omega) (fun _ => ?_)
  refine tt_iconst hV rfl (pc' := 12) rfl ?_
  refine r_goto hV rfl (pc' := 16) (by decide) ?_
  exact v_ret (q := mI297) rfl rfl rfl rfl
def fdI (T : List Int) (v : Int) : Nat → Nat → Int
  | 0, _ => -1
  | k + 1, i => if T.getD i 0 = v then i else fdI T v k (i + 1)
theorem by_eq : ∀ v : Nat, v < 256 → ∀ c ∈ ([115, 98, 105, 109, 119, 104, 112, 110, 114, 99] : List Int), (Int32.ofInt c = (Int32.ofInt (v : Int)).toInt8.toInt32 ↔ c = v) := by decide +kernel
theorem st_loop (h : w[b]? = none ∧ pE (gP xs fv) b = some (.inr (.inl (T.map Int32.ofInt)))) (hT : T.length ≤ 100) (hl : ∀ c ∈ T, c ∈ ([115, 98, 105, 109, 119, 104, 112, 110, 114, 99] : List Int)) {v : Int} (hv : 0 ≤ v ∧ v ≤ 255) : ∀ (k i : Nat), i + k = T.length → Ru (gP xs fv) d 299 (some (vI (fdI T v k i)), w, n) (7, [some (.ref b), some (vI v), some (vI 0), some (vI T.length), some (.int (Int32.ofInt v).toInt8.toInt32), some (vI i)], [], w, n) := by
  intro k
  induction k with
  | zero =>
    intro i hi
    have hV : Clo (gP xs fv) d 299 6 false (Ru (gP xs fv) d 299 (some (vI (fdI T v 0 i)), w, n)) := Ru_clo (q := mI299) rfl
    refine r_iload hV rfl rfl (pc' := 9) rfl ?_
    refine r_iload_n hV rfl rfl (pc' := 10) rfl ?_
    refine tt_icmp_ge hV rfl (by omega) (by omega) (pt := 31) (by decide) (pf := 13) rfl (fun _ => ?_) (fun hc => by omega)
    refine tt_iconst hV rfl (pc' := 32) rfl ?_
    exact v_ret (q := mI299) rfl rfl rfl rfl
  | succ k ih =>
    intro i hi
    have hV : Clo (gP xs fv) d 299 6 false (Ru (gP xs fv) d 299 (some (vI (fdI T v (k + 1) i)), w, n)) := Ru_clo (q := mI299) rfl
    have hil : i < T.length := by omega
    have hc := hl (T[i]) (List.getElem_mem hil)
    have eT : T.getD i 0 = T[i] := by rw [List.getD_eq_getElem?_getD, List.getElem?_eq_getElem hil]; rfl
    have hb := by_eq v.toNat (by omega) (T[i]) hc
    rw [show ((v.toNat : Nat) : Int) = v by omega] at hb
    have ef : fdI T v (k + 1) i = if T[i] = v then (i : Int) else fdI T v k (i + 1) := by rw [← eT]; rfl
    refine r_iload hV rfl rfl (pc' := 9) rfl ?_
    refine r_iload_n hV rfl rfl (pc' := 10) rfl ?_
    refine tt_icmp_ge hV rfl (by omega) (by omega) (pt := 31) (by decide) (pf := 13) rfl (fun hc => by omega) (fun _ => ?_)
    refine r_aload_n hV rfl rfl (pc' := 14) rfl ?_
    refine r_iload hV rfl rfl (pc' := 16) rfl ?_
    refine r_ebald hV rfl h.1 h.2 (v := Int32.ofInt T[i]) ?_ (pc' := 17) rfl ?_
    · unfold aIx
      rw [if_neg (by rw [i32_0, i32_lt (by omega) (by omega)]; omega), i32_n (by omega), List.getElem?_map, Int.toNat_natCast, List.getElem?_eq_getElem hil]
      rfl
    refine r_iload hV rfl rfl (pc' := 19) rfl ?_
    refine r_icmp_ne hV rfl (pt := 25) (by decide) (pf := 22) rfl (fun hc => ?_) (fun hc => ?_)
    · refine tt_iinc5 hV rfl rfl (pc' := 28) rfl ?_
      refine r_goto hV rfl (pc' := 7) (by decide) ?_
      rw [ef, if_neg (fun e => hc (hb.mpr e))]
      exact ih (i + 1) (by omega)
    · refine r_iload hV rfl rfl (pc' := 24) rfl ?_
      rw [ef, if_pos (hb.mp (Decidable.not_not.mp hc))]
      exact v_ret (q := mI299) rfl rfl rfl rfl
theorem st_idx4 (h : w[b]? = none ∧ pE (gP xs fv) b = some (.inr (.inl (T.map Int32.ofInt)))) (hT : T.length ≤ 100) (h0 : 0 < T.length) (hl : ∀ c ∈ T, c ∈ ([115, 98, 105, 109, 119, 104, 112, 110, 114, 99] : List Int)) {v : Int} (hv : 0 ≤ v ∧ v ≤ 255) : Ru (gP xs fv) (d + 1) 298 (some (vI (fdI T v T.length 0)), w, n) (0, [some (.ref b), some (vI v), some (vI 0), some (vI T.length)], [], w, n) := by
  have hV : Clo (gP xs fv) (d + 1) 298 4 false (Ru (gP xs fv) (d + 1) 298 (some (vI (fdI T v T.length 0)), w, n)) := Ru_clo (q := mI298) rfl
  refine r_iload_n hV rfl rfl (pc' := 1) rfl ?_
  refine v_calls hV rfl rfl rfl (Nat.le_of_ble_eq_true rfl) rfl rfl (Nat.le_of_ble_eq_true rfl) (Nat.le_of_ble_eq_true rfl) rfl (st_can hv) rfl (pc' := 4) rfl ?_
  refine r_if_ne hV rfl (pt := 9) (by decide) (pf := 7) rfl (fun _ => ?_) (fun hc => absurd (by decide) hc)
  refine r_iload_n hV rfl rfl (pc' := 10) rfl ?_
  refine tt_iconst hV rfl (pc' := 11) rfl ?_
  refine tt_max hV rfl rfl rfl (by decide) (by decide) (Nat.le_of_ble_eq_true rfl) (pc' := 14) rfl ?_
  refine tt_istore2 hV rfl rfl (pc' := 15) rfl ?_
  refine r_iload_n hV rfl rfl (pc' := 16) rfl ?_
  refine r_aload_n hV rfl rfl (pc' := 17) rfl ?_
  refine r_eblen hV rfl h.1 h.2 (pc' := 18) rfl ?_
  have e : Int32.ofNat (T.map Int32.ofInt).length = Int32.ofInt T.length := by rw [List.length_map]; exact Int32.ofInt_eq_ofNat.symm
  rw [e]
  refine tt_min hV rfl rfl rfl (by omega) (by omega) (Nat.le_of_ble_eq_true rfl) (pc' := 21) rfl ?_
  rw [show min (T.length : Int) T.length = T.length by omega, show max (0 : Int) 0 = 0 by decide]
  refine tt_istore3 hV rfl rfl (pc' := 22) rfl ?_
  refine r_iload_n hV rfl rfl (pc' := 23) rfl ?_
  refine r_iload_n hV rfl rfl (pc' := 24) rfl ?_
  refine tt_icmp_lt hV rfl (by decide) (by omega) (pt := 29) (by decide) (pf := 27) rfl (fun _ => ?_) (fun hc => by omega)
  refine r_aload_n hV rfl rfl (pc' := 30) rfl ?_
  refine r_iload_n hV rfl rfl (pc' := 31) rfl ?_
  refine r_iload_n hV rfl rfl (pc' := 32) rfl ?_
  refine r_iload_n hV rfl rfl (pc' := 33) rfl ?_
  refine v_calls hV rfl rfl rfl (Nat.le_of_ble_eq_true rfl) rfl rfl (Nat.le_of_ble_eq_true rfl) (Nat.le_of_ble_eq_true rfl) rfl (v := some (vI (fdI T v T.length 0))) (w' := w) (n' := n) ?_ rfl (pc' := 36) rfl ?_
  · have hV : Clo (gP xs fv) d 299 6 false (Ru (gP xs fv) d 299 (some (vI (fdI T v T.length 0)), w, n)) := Ru_clo (q := mI299) rfl
    show Ru (gP xs fv) d 299 (some (vI (fdI T v T.length 0)), w, n) (0, [some (.ref b), some (vI v), some (vI 0), some (vI T.length), none, none], [], w, n)
    refine r_iload_n hV rfl rfl (pc' := 1) rfl ?_
    refine r_i2b hV rfl (pc' := 2) rfl ?_
    refine r_istore hV rfl (Nat.le_of_ble_eq_true rfl) rfl (pc' := 4) rfl ?_
    refine r_iload_n hV rfl rfl (pc' := 5) rfl ?_
    refine r_istore hV rfl (Nat.le_of_ble_eq_true rfl) rfl (pc' := 7) rfl ?_
    exact st_loop h hT hl hv T.length 0 (by omega)
  · exact v_ret (q := mI298) rfl rfl rfl rfl
theorem st_index (h : TxAt xs fv w z b T) (hT : T.length ≤ 100) (h0 : 0 < T.length) (hl : ∀ c ∈ T, c ∈ ([115, 98, 105, 109, 119, 104, 112, 110, 114, 99] : List Int)) {v : Int} (hv : 0 ≤ v ∧ v ≤ 255) : Ru (gP xs fv) (d + 3) 291 (some (vI (fdI T v T.length 0)), w, n) (0, [some (.ref z), some (vI v)], [], w, n) := by
  have hV : Clo (gP xs fv) (d + 3) 291 2 false (Ru (gP xs fv) (d + 3) 291 (some (vI (fdI T v T.length 0)), w, n)) := Ru_clo (q := mI291) rfl
  refine r_aload_n hV rfl rfl (pc' := 1) rfl ?_
  refine r_iload_n hV rfl rfl (pc' := 2) rfl ?_
  refine tt_iconst hV rfl (pc' := 3) rfl ?_
  refine r_cxV hV rfl rfl rfl rfl rfl h.1 h.2.2.1 (Nat.le_of_ble_eq_true rfl) (Nat.le_of_ble_eq_true rfl) rfl (v := vI (fdI T v T.length 0)) (w' := w) (n' := n) ?_ (pc' := 6) rfl ?_
  · have hV : Clo (gP xs fv) (d + 2) 292 3 false (Ru (gP xs fv) (d + 2) 292 (some (vI (fdI T v T.length 0)), w, n)) := Ru_clo (q := mI292) rfl
    show Ru (gP xs fv) (d + 2) 292 (some (vI (fdI T v T.length 0)), w, n) (0, [some (.ref z), some (vI v), some (vI 0)], [], w, n)
    refine r_aload_n hV rfl rfl (pc' := 1) rfl ?_
    refine r_cxV hV rfl rfl rfl rfl rfl h.1 h.2.2.1 (Nat.le_of_ble_eq_true rfl) (Nat.le_of_ble_eq_true rfl) rfl (st_latin h) (pc' := 4) rfl ?_
    refine r_if_eq hV rfl (pt := 23) (by decide) (pf := 7) rfl (fun hc => absurd hc (by decide)) (fun _ => ?_)
    refine r_aload_n hV rfl rfl (pc' := 8) rfl ?_
    refine r_egv hV rfl rfl h.2.2.1 (pc' := 11) rfl ?_
    refine r_iload_n hV rfl rfl (pc' := 12) rfl ?_
    refine r_iload_n hV rfl rfl (pc' := 13) rfl ?_
    refine r_aload_n hV rfl rfl (pc' := 14) rfl ?_
    refine r_cxV hV rfl rfl rfl rfl rfl h.1 h.2.2.1 (Nat.le_of_ble_eq_true rfl) (Nat.le_of_ble_eq_true rfl) rfl (st_len (d := d) h hT) (pc' := 17) rfl ?_
    refine v_calls hV rfl rfl rfl (Nat.le_of_ble_eq_true rfl) rfl rfl (Nat.le_of_ble_eq_true rfl) (Nat.le_of_ble_eq_true rfl) rfl (st_idx4 (d := d) ⟨h.2.1, h.2.2.2⟩ hT h0 hl hv) rfl (pc' := 20) rfl ?_
    refine r_goto hV rfl (pc' := 36) (by decide) ?_
    exact v_ret (q := mI292) rfl rfl rfl rfl
  · exact v_ret (q := mI291) rfl rfl rfl rfl
theorem st_char (h : TxAt xs fv w z b T) (hT : T.length ≤ 100) (hc : ∀ c ∈ T, 0 ≤ c ∧ c ≤ 127) {i : Int} (hi : 0 ≤ i ∧ i < T.length) (hfv : fv = .null ∨ fv = .ref (aK + 9)) : Ru (gP xs fv) (d + 3) 290 (some (vI (gx T i)), w, n) (0, [some (.ref z), some (vI i)], [], w, n) := by
  have hV : Clo (gP xs fv) (d + 3) 290 2 false (Ru (gP xs fv) (d + 3) 290 (some (vI (gx T i)), w, n)) := Ru_clo (q := mI290) rfl
  have hil : i.toNat < T.length := by omega
  have eg : gx T i = T[i.toNat] := by unfold gx; rw [List.getD_eq_getElem?_getD, List.getElem?_eq_getElem hil]; rfl
  have hr := hc _ (List.getElem_mem hil)
  rw [← eg] at hr
  have hch : ∀ k : Nat, k ≤ 127 → sR (some FieldType.char) .ireturn [vI (k : Int)] = some (some (vI (k : Int))) := by decide +kernel
  have hch' := hch (gx T i).toNat (by omega)
  rw [show (((gx T i).toNat : Nat) : Int) = gx T i by omega] at hch'
  refine r_aload_n hV rfl rfl (pc' := 1) rfl ?_
  refine r_cxV hV rfl rfl rfl rfl rfl h.1 h.2.2.1 (Nat.le_of_ble_eq_true rfl) (Nat.le_of_ble_eq_true rfl) rfl (st_latin h) (pc' := 4) rfl ?_
  refine r_if_eq hV rfl (pt := 16) (by decide) (pf := 7) rfl (fun hc => absurd hc (by decide)) (fun _ => ?_)
  refine r_aload_n hV rfl rfl (pc' := 8) rfl ?_
  refine r_egv hV rfl rfl h.2.2.1 (pc' := 11) rfl ?_
  refine r_iload_n hV rfl rfl (pc' := 12) rfl ?_
  refine v_calls hV rfl rfl rfl (Nat.le_of_ble_eq_true rfl) rfl rfl (Nat.le_of_ble_eq_true rfl) (Nat.le_of_ble_eq_true rfl) rfl (v := some (vI (gx T i))) (w' := w) (n' := n) ?_ rfl (pc' := 15) rfl ?_
  · have hV : Clo (gP xs fv) (d + 2) 296 2 false (Ru (gP xs fv) (d + 2) 296 (some (vI (gx T i)), w, n)) := Ru_clo (q := mI296) rfl
    show Ru (gP xs fv) (d + 2) 296 (some (vI (gx T i)), w, n) (0, [some (.ref b), some (vI i)], [], w, n)
    refine r_iload_n hV rfl rfl (pc' := 1) rfl ?_
    refine r_aload_n hV rfl rfl (pc' := 2) rfl ?_
    refine r_eblen hV rfl h.2.1 h.2.2.2 (pc' := 3) rfl ?_
    have e : Int32.ofNat (T.map Int32.ofInt).length = Int32.ofInt T.length := by rw [List.length_map]; exact Int32.ofInt_eq_ofNat.symm
    rw [e]
    refine v_calls hV rfl rfl rfl (Nat.le_of_ble_eq_true rfl) rfl rfl (Nat.le_of_ble_eq_true rfl) (Nat.le_of_ble_eq_true rfl) rfl (v := none) (w' := w) (n' := n) ?_ rfl (pc' := 6) rfl ?_
    · have hV : Clo (gP xs fv) (d + 1) 295 2 false (Ru (gP xs fv) (d + 1) 295 (none, w, n)) := Ru_clo (q := mI295) rfl
      show Ru (gP xs fv) (d + 1) 295 (none, w, n) (0, [some (vI i), some (vI T.length)], [], w, n)
      refine r_iload_n hV rfl rfl (pc' := 1) rfl ?_
      refine r_iload_n hV rfl rfl (pc' := 2) rfl ?_
      refine r_gets hV rfl rfl rfl (pc' := 5) rfl ?_
      have chk : Ru (gP xs fv) d 302 (some (vI i), w, n) (0, [some (vI i), some (vI T.length), some fv], [], w, n) := by
        have hV : Clo (gP xs fv) d 302 3 false (Ru (gP xs fv) d 302 (some (vI i), w, n)) := Ru_clo (q := mI302) rfl
        refine r_iload_n hV rfl rfl (pc' := 1) rfl ?_
        refine tt_if_lt hV rfl (by omega) (pt := 9) (by decide) (pf := 4) rfl (fun hc => by omega) (fun _ => ?_)
        refine r_iload_n hV rfl rfl (pc' := 5) rfl ?_
        refine r_iload_n hV rfl rfl (pc' := 6) rfl ?_
        refine tt_icmp_lt hV rfl (by omega) (by omega) (pt := 16) (by decide) (pf := 9) rfl (fun _ => ?_) (fun hc => by omega)
        refine r_iload_n hV rfl rfl (pc' := 17) rfl ?_
        exact v_ret (q := mI302) rfl rfl rfl rfl
      have ent : aEnt 3 [vI i, vI T.length, fv] = [some (vI i), some (vI T.length), some fv] := by
        rcases hfv with rfl | rfl <;> rfl
      refine v_calls hV (as := [vI i, vI T.length, fv]) rfl rfl rfl (Nat.le_of_ble_eq_true rfl) rfl rfl (Nat.le_of_ble_eq_true rfl) (by rcases hfv with rfl | rfl <;> exact Nat.le_refl 3) rfl (by rw [ent]; exact chk) rfl (pc' := 8) rfl ?_
      refine r_pop hV rfl rfl (pc' := 9) rfl ?_
      exact v_ret (q := mI295) rfl rfl rfl rfl
    refine r_aload_n hV rfl rfl (pc' := 7) rfl ?_
    refine r_iload_n hV rfl rfl (pc' := 8) rfl ?_
    refine r_ebald hV rfl h.2.1 h.2.2.2 (v := Int32.ofInt (gx T i)) ?_ (pc' := 9) rfl ?_
    · unfold aIx
      rw [if_neg (by rw [i32_0, i32_lt (by omega) (by omega)]; omega), i32_n (by omega), List.getElem?_map, List.getElem?_eq_getElem hil, eg]
      rfl
    refine tt_sipush hV rfl rfl (pc' := 12) rfl ?_
    refine tt_iand hV rfl (pc' := 13) rfl ?_
    have ea : iA (gx T i) 255 = gx T i := by rw [iA_255]; omega
    rw [ea]
    refine tt_i2c hV rfl (by omega) (pc' := 14) rfl ?_
    exact v_ret (q := mI296) rfl rfl hch' rfl
  · exact v_ret (q := mI290) rfl rfl hch' rfl
end Strs2
section Strs3
variable {X : Cx} {d : Nat} {m : Mm} {Q : Int → Mm → Prop}
theorem fd_kd : ∀ v : Nat, v < 256 → fdI xKIN v 4 0 = kdO v := by decide +kernel
theorem fd_lt : ∀ v : Nat, v < 256 → fdI xLTR v 6 0 = ltO v := by decide +kernel
theorem Z_kind_c (hB2 : X.2.2.1.length ≤ 1000000) {v : Int} (hv : 0 ≤ v ∧ v ≤ 255) (h : Q (kdO v) m) : Z_indexOf X (d + 3) 1000010 v m Q := by
  have hr := st_index (xs := X.1) (fv := X.2.1) (d := d) (n := X.2.2.2) (w := Wd X.2.2.1 m) (z := 1000010) (b := 1000020) (T := xKIN) ⟨Wd_none (Nat.le_trans hB2 (Nat.le_of_ble_eq_true rfl)), Wd_none (Nat.le_trans hB2 (Nat.le_of_ble_eq_true rfl)), rfl, rfl⟩ (by decide) (by decide) (by decide) hv
  have e := fd_kd v.toNat (by omega)
  rw [show ((v.toNat : Nat) : Int) = v by omega] at e
  rw [← e] at h
  exact ⟨_, _, h, hr⟩
theorem Z_letter_c (hB2 : X.2.2.1.length ≤ 1000000) {v : Int} (hv : 0 ≤ v ∧ v ≤ 255) (h : Q (ltO v) m) : Z_indexOf X (d + 3) 1000012 v m Q := by
  have hr := st_index (xs := X.1) (fv := X.2.1) (d := d) (n := X.2.2.2) (w := Wd X.2.2.1 m) (z := 1000012) (b := 1000022) (T := xLTR) ⟨Wd_none (Nat.le_trans hB2 (Nat.le_of_ble_eq_true rfl)), Wd_none (Nat.le_trans hB2 (Nat.le_of_ble_eq_true rfl)), rfl, rfl⟩ (by decide) (by decide) (by decide) hv
  have e := fd_lt v.toNat (by omega)
  rw [show ((v.toNat : Nat) : Int) = v by omega] at e
  rw [← e] at h
  exact ⟨_, _, h, hr⟩
theorem Z_char_c (hB2 : X.2.2.1.length ≤ 1000000) (hfv : X.2.1 = .null ∨ X.2.1 = .ref (aK + 9)) {i : Int} (hi : 0 ≤ i ∧ i < 14) (h : Q (gx xLET i) m) : Z_charAt X (d + 3) 1000011 i m Q := by
  have hr := st_char (xs := X.1) (fv := X.2.1) (d := d) (n := X.2.2.2) (w := Wd X.2.2.1 m) (z := 1000011) (b := 1000021) (T := xLET) ⟨Wd_none (Nat.le_trans hB2 (Nat.le_of_ble_eq_true rfl)), Wd_none (Nat.le_trans hB2 (Nat.le_of_ble_eq_true rfl)), rfl, rfl⟩ (by decide) (by decide) (i := i) (by have : xLET.length = 14 := rfl; omega) hfv
  exact ⟨_, _, h, hr⟩
end Strs3
