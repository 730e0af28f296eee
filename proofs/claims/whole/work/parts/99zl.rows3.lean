/-! ===== rules for new cells ===== -/
section Rows6
variable {g : aPg} {d mi mL : Nat} {ini : Bool} {V : aS → Prop} {pc pc' : Nat} {L : aL} {S r : List Value} {w : aW} {n : Nat} {sh : List Sh} {m : Mm}
theorem tt_new (hV : Clo g d mi mL ini V) {idx ci : Nat} {zq : Int} {fs : List Value} {s : Sh} (hC : pC g mi pc = some (.new idx, 3)) (hl : pL g mi idx = some (2, ci, zq)) (hd : pD g ci = some fs) (hlen : sh.length < 600000) (hn : n + fs.length ≤ 7000000) (hc : mkC s (m sh.length) = some (.inr (ci, fs))) (hp : pc + 3 = pc') (k : V (pc', L, .ref sh.length :: S, Wd (sh ++ [s]) m, n + fs.length)) : V (pc, L, S, Wd sh m, n) := by
  subst hp
  rw [Wd_app, hc] at k
  refine hV _ _ _ _ 0 hC ?_ k
  have hlen' : ¬ 600000 ≤ sh.length := by omega
  simp only [st1, s0, sQ, sA, sB, sI, sJ, sG, sH, sM, sN, iL, hl, hd, Wd_len, if_neg hlen', if_pos hn]
  rfl
theorem aInts_z {len : Nat} {f : Int → Int} (h : ∀ j : Nat, j < len → f j = 0) : aInts len f = List.replicate len 0 := by
  unfold aInts
  have e : (List.range len).map (fun i : Nat => Int32.ofInt (f i)) = (List.range len).map (fun _ => (0 : Int32)) := List.map_congr_left (fun i hi => by rw [h i (List.mem_range.mp hi)]; rfl)
  rw [e, List.map_const', List.length_range]
theorem aLongs_z {len : Nat} {f : Int → Int} (h : ∀ j : Nat, j < len → f j = 0) : aLongs len f = List.replicate len 0 := by
  unfold aLongs
  have e : (List.range len).map (fun i : Nat => Int64.ofInt (f i)) = (List.range len).map (fun _ => (0 : Int64)) := List.map_congr_left (fun i hi => by rw [h i (List.mem_range.mp hi)]; rfl)
  rw [e, List.map_const', List.length_range]
theorem aRefs_z {len : Nat} {f : Int → Int} (h : ∀ j : Nat, j < len → f j < 0) : aRefs len f = List.replicate len none := by
  unfold aRefs
  have e : (List.range len).map (fun i : Nat => if f i < 0 then none else some (f i).toNat) = (List.range len).map (fun _ => (none : Option Nat)) := List.map_congr_left (fun i hi => by rw [if_pos (h i (List.mem_range.mp hi))])
  rw [e, List.map_const', List.length_range]
theorem aMk_nw {len : Nat} {x : aC} {pc0 : Nat} {w0 : aW} (hl : len ≤ 100000) (hw : w0.length < 600000) : aMk pc0 L r w0 (Int32.ofInt (len : Int)) x = some ((pc0, L, .ref w0.length :: r), w0 ++ [some x], len) := by
  unfold aMk
  have e : (Int32.ofInt (len : Int)).toNatClampNeg = len := by rw [i32_n (by omega), Int.toNat_natCast]
  rw [if_neg, e]
  rw [e]
  rintro (q | q | q)
  · rw [i32_0, i32_lt (by omega) (by omega)] at q; omega
  · omega
  · omega
theorem tt_newi (hV : Clo g d mi mL ini V) {len : Nat} (hC : pC g mi pc = some (.newarray .int, 2)) (hlen : sh.length < 600000) (hl : len ≤ 100000) (hn : n + len ≤ 7000000) (hz : ∀ j : Nat, j < len → m sh.length j = 0) (hp : pc + 2 = pc') (k : V (pc', L, .ref sh.length :: r, Wd (sh ++ [.inr (.inl (0, len))]) m, n + len)) : V (pc, L, vI len :: r, Wd sh m, n) := by
  subst hp
  have hm : mkC (.inr (.inl (0, len))) (m sh.length) = some (.inl (.int, .inl (List.replicate len 0))) := by
    show (some (.inl (.int, .inl (aInts len (m sh.length)))) : Option aC) = _
    rw [aInts_z hz]
  rw [Wd_app, hm] at k
  refine hV _ _ _ _ 0 hC ?_ k
  have e : (Int32.ofInt (len : Int)).toNatClampNeg = len := by rw [i32_n (by omega), Int.toNat_natCast]
  simp only [st1, s0, sQ, sA, sB, sI, sJ, sG, sH, sM, sN, iL, e, aMk_nw hl (show (Wd sh m).length < 600000 by rw [Wd_len]; exact hlen), if_pos hn, Wd_len]
  rfl
theorem tt_newc (hV : Clo g d mi mL ini V) {len : Nat} (hC : pC g mi pc = some (.newarray .char, 2)) (hlen : sh.length < 600000) (hl : len ≤ 100000) (hn : n + len ≤ 7000000) (hz : ∀ j : Nat, j < len → m sh.length j = 0) (hp : pc + 2 = pc') (k : V (pc', L, .ref sh.length :: r, Wd (sh ++ [.inr (.inl (2, len))]) m, n + len)) : V (pc, L, vI len :: r, Wd sh m, n) := by
  subst hp
  have hm : mkC (.inr (.inl (2, len))) (m sh.length) = some (.inl (.char, .inl (List.replicate len 0))) := by
    show (some (.inl (.char, .inl (aInts len (m sh.length)))) : Option aC) = _
    rw [aInts_z hz]
  rw [Wd_app, hm] at k
  refine hV _ _ _ _ 0 hC ?_ k
  have e : (Int32.ofInt (len : Int)).toNatClampNeg = len := by rw [i32_n (by omega), Int.toNat_natCast]
  simp only [st1, s0, sQ, sA, sB, sI, sJ, sG, sH, sM, sN, iL, e, aMk_nw hl (show (Wd sh m).length < 600000 by rw [Wd_len]; exact hlen), if_pos hn, Wd_len]
  rfl
theorem tt_newz (hV : Clo g d mi mL ini V) {len : Nat} (hC : pC g mi pc = some (.newarray .boolean, 2)) (hlen : sh.length < 600000) (hl : len ≤ 100000) (hn : n + len ≤ 7000000) (hz : ∀ j : Nat, j < len → m sh.length j = 0) (hp : pc + 2 = pc') (k : V (pc', L, .ref sh.length :: r, Wd (sh ++ [.inr (.inl (1, len))]) m, n + len)) : V (pc, L, vI len :: r, Wd sh m, n) := by
  subst hp
  have hm : mkC (.inr (.inl (1, len))) (m sh.length) = some (.inl (.boolean, .inl (List.replicate len 0))) := by
    show (some (.inl (.boolean, .inl (aInts len (m sh.length)))) : Option aC) = _
    rw [aInts_z hz]
  rw [Wd_app, hm] at k
  refine hV _ _ _ _ 0 hC ?_ k
  have e : (Int32.ofInt (len : Int)).toNatClampNeg = len := by rw [i32_n (by omega), Int.toNat_natCast]
  simp only [st1, s0, sQ, sA, sB, sI, sJ, sG, sH, sM, sN, iL, e, aMk_nw hl (show (Wd sh m).length < 600000 by rw [Wd_len]; exact hlen), if_pos hn, Wd_len]
  rfl
theorem tt_newj (hV : Clo g d mi mL ini V) {len : Nat} (hC : pC g mi pc = some (.newarray .long, 2)) (hlen : sh.length < 600000) (hl : len ≤ 100000) (hn : n + len ≤ 7000000) (hz : ∀ j : Nat, j < len → m sh.length j = 0) (hp : pc + 2 = pc') (k : V (pc', L, .ref sh.length :: r, Wd (sh ++ [.inr (.inl (3, len))]) m, n + len)) : V (pc, L, vI len :: r, Wd sh m, n) := by
  subst hp
  have hm : mkC (.inr (.inl (3, len))) (m sh.length) = some (.inl (.long, .inr (.inl (List.replicate len 0)))) := by
    show (some (.inl (.long, .inr (.inl (aLongs len (m sh.length))))) : Option aC) = _
    rw [aLongs_z hz]
  rw [Wd_app, hm] at k
  refine hV _ _ _ _ 0 hC ?_ k
  have e : (Int32.ofInt (len : Int)).toNatClampNeg = len := by rw [i32_n (by omega), Int.toNat_natCast]
  simp only [st1, s0, sQ, sA, sB, sI, sJ, sG, sH, sM, sN, iL, e, aMk_nw hl (show (Wd sh m).length < 600000 by rw [Wd_len]; exact hlen), if_pos hn, Wd_len]
  rfl
/-- an array of references: t 4 laws, 5 states -/
theorem tt_newa (hV : Clo g d mi mL ini V) {len idx ci t N : Nat} {zq : Int} {C : String} {Tb : u_T} (hC : pC g mi pc = some (.anewarray idx, 3)) (hl0 : pL g mi idx = some (2, ci, zq)) (hcl : (pK g)[ci]? = some (C, Tb, N)) (ho : C ∈ pO g) (ht : ∀ f, mkA t len f = .inl (.object C, .inr (.inr (aRefs len f)))) (hlen : sh.length < 600000) (hl : len ≤ 100000) (hn : n + len ≤ 7000000) (hz : ∀ j : Nat, j < len → m sh.length j < 0) (hp : pc + 3 = pc') (k : V (pc', L, .ref sh.length :: r, Wd (sh ++ [.inr (.inl (t, len))]) m, n + len)) : V (pc, L, vI len :: r, Wd sh m, n) := by
  subst hp
  have hm : mkC (.inr (.inl (t, len))) (m sh.length) = some (.inl (.object C, .inr (.inr (List.replicate len none)))) := by
    show some (mkA t len (m sh.length)) = _
    rw [ht, aRefs_z hz]
  rw [Wd_app, hm] at k
  refine hV _ _ _ _ 0 hC ?_ k
  have e : (Int32.ofInt (len : Int)).toNatClampNeg = len := by rw [i32_n (by omega), Int.toNat_natCast]
  simp only [st1, s0, sQ, sA, sB, sI, sJ, sG, sH, sM, sN, iL, hl0, hcl, if_pos ho, e, aMk_nw hl (show (Wd sh m).length < 600000 by rw [Wd_len]; exact hlen), if_pos hn, Wd_len]
  rfl
theorem tt_aast (hV : Clo g d mi mL ini V) {a v len t ci N : Nat} {j : Int} {C : String} {Tb : u_T} {tys : List Nat} (hC : pC g mi pc = some (.aastore, 1)) (hs : sh[a]? = some (.inr (.inl (t, len)))) (hv : sh[v]? = some (.inl (ci, tys))) (hcl : (pK g)[ci]? = some (C, Tb, N)) (ho : C ∈ pO g) (ht : ∀ f, mkA t len f = .inl (.object C, .inr (.inr (aRefs len f)))) (hl : len ≤ 100000) (hj : 0 ≤ j ∧ j < len) (hp : pc + 1 = pc') (k : V (pc', L, r, Wd sh (up m a j v), n)) : V (pc, L, .ref v :: vI j :: .ref a :: r, Wd sh m, n) := by
  subst hp
  have hw : (Wd sh m)[a]? = some (some (.inl (.object C, .inr (.inr (aRefs len (m a)))))) := by rw [Wd_get hs]; show some (some (mkA t len (m a))) = _; rw [ht]
  have hw2 := Wd_obj (m := m) hv
  have hlen : (aRefs len (m a)).length = len := by simp [aRefs]
  have hok := okIx hlen hj hl
  have hcond : ¬ ((Int32.ofInt j < 0 ∨ (aRefs len (m a)).length ≤ (Int32.ofInt j).toNatClampNeg) ∨ ¬ C ∈ pO g ∨ ¬ True) := by
    rintro (q | q | q)
    · exact hok q
    · exact q ho
    · exact q trivial
  have hset : (Wd sh m).set a (some (.inl (.object C, .inr (.inr ((aRefs len (m a)).set (Int32.ofInt j).toNatClampNeg (some v)))))) = Wd sh (up m a j v) := by
    rw [i32_n (by omega)]
    have e : (some v : Option Nat) = (fun z : Int => if z < 0 then none else some z.toNat) (v : Int) := by
      show some v = if (v : Int) < 0 then none else some ((v : Int)).toNat
      rw [if_neg (by omega), Int.toNat_natCast]
    unfold aRefs
    rw [e, setMap (F := fun z : Int => if z < 0 then none else some z.toNat) hj]
    exact up_arr (F := fun f => .inl (.object C, .inr (.inr (aRefs len f)))) hs ht
  rw [← hset] at k
  refine hV _ _ _ _ 0 hC ?_ k
  simp only [st1, s0, sQ, sA, sB, sI, sJ, sG, sH, sM, iL, hw, hw2, hcl]
  rw [if_neg hcond]
  rfl
theorem v_calli (hV : Clo g (d + 1) mi mL ini V) {idx k np b : Nat} {z : Int} {y : MethodName} {cc : ByteArray} {mL' ck : Nat} {ret : Option FieldType} {ini' : Bool} {as rest S' : List Value} {v : Option Value} {w' : aW} {n' : Nat} (hC : pC g mi pc = some (.invokespecial idx, 3)) (hl : pL g mi idx = some (1, k, z)) (hz : z = 2 ∨ z = 3) (hI : pI g k = some (y, cc, mL', ret, np, ck, ini')) (ht : (S.take np).reverse = as) (hd : S.drop np = .ref b :: rest) (hcat : (rest.map fun v => v.category).sum ≤ 8) (hfl : (aFl (.ref b :: as)).length ≤ mL') (hL : L.length = mL) (hr : Ru g d k (v, w', n') (0, aEnt mL' (.ref b :: as), [], w, n)) (hS : v.toList ++ rest = S') (hp : pc + 3 = pc') (kk : V (pc', L, S', w', n')) : V (pc, L, S, w, n) := by
  subst ht
  refine r_call hV hC rfl hL ?_ ?_ hr hS hp kk
  · simp [s0, sQ, sA, sB, sI, sJ, sG, sH, sM, sN, iL]
  · simp only [sC, hl, hI, hd]
    rw [if_pos ⟨hz, hcat, hfl⟩]
theorem r_objI (hV : Clo g (d + 1) mi mL ini V) {idx a : Nat} {zq : Int} (hC : pC g mi pc = some (.invokespecial idx, 3)) (hl : pL g mi idx = some (7, 1, zq)) (hL : L.length = mL) (hcat : (r.map fun v => v.category).sum ≤ 8) (hp : pc + 3 = pc') (k : V (pc', L, r, w, n)) : V (pc, L, .ref a :: r, w, n) := by
  subst hp
  refine r_nat hV hC rfl hL (y := ((pc + 3, L, r), w)) (by simp [s0, sQ, sA, sB, sI, sJ, sG, sH, sM, sN, iL]) ?_ ?_ k
  · unfold sC
    dsimp only
    rw [hl]
    rfl
  · simp only [sP, hl]
    rw [if_neg (by decide), if_neg (Nat.not_lt.mpr hcat)]
end Rows6
