/-! ===== constructors: rules over a plain world, what lies before it unknown ===== -/
abbrev iniI (len : Nat) : Option aC := some (.inl (.int, .inl (List.replicate len 0)))
abbrev iniC (len : Nat) : Option aC := some (.inl (.char, .inl (List.replicate len 0)))
abbrev iniZ (len : Nat) : Option aC := some (.inl (.boolean, .inl (List.replicate len 0)))
abbrev iniJ (len : Nat) : Option aC := some (.inl (.long, .inr (.inl (List.replicate len 0))))
abbrev iniR (C : String) (len : Nat) : Option aC := some (.inl (.object C, .inr (.inr (List.replicate len none))))
abbrev iniO (ci : Nat) (fs : List Value) : Option aC := some (.inr (ci, fs))
section Rows7
variable {g : aPg} {d mi mL : Nat} {ini : Bool} {V : aS → Prop} {pc pc' : Nat} {L : aL} {S r : List Value} {w : aW} {n : Nat}
theorem k_new (hV : Clo g d mi mL ini V) {idx ci N a fl n' : Nat} {zq : Int} {fs : List Value} {pre t t' : aW} (hC : pC g mi pc = some (.new idx, 3)) (hl : pL g mi idx = some (2, ci, zq)) (hd : pD g ci = some fs) (hN : pre.length = N) (ha : N + t.length = a) (hlen : a < 600000) (hfl : fs.length = fl) (hn' : n + fl = n') (hn : n' ≤ 7000000) (ht : t ++ [iniO ci fs] = t') (hp : pc + 3 = pc') (k : V (pc', L, .ref a :: S, pre ++ t', n')) : V (pc, L, S, pre ++ t, n) := by
  subst hp
  subst ht
  subst hn'
  subst hfl
  subst ha
  subst hN
  have e : (pre ++ t).length = pre.length + t.length := List.length_append
  have h1 : ¬ 600000 ≤ (pre ++ t).length := by rw [e]; omega
  rw [← List.append_assoc, ← e] at k
  refine hV _ _ _ _ 0 hC ?_ k
  simp only [st1, s0, sQ, sA, sB, sI, sJ, sG, sH, sM, sN, iL, hl, hd, if_neg h1, if_pos hn]
  rfl
theorem k_mk {len N a : Nat} {x : aC} {pc0 : Nat} {pre t : aW} (hl : len ≤ 100000) (hN : pre.length = N) (ha : N + t.length = a) (hlen : a < 600000) : aMk pc0 L r (pre ++ t) (Int32.ofInt (len : Int)) x = some ((pc0, L, .ref a :: r), pre ++ (t ++ [some x]), len) := by
  subst ha
  subst hN
  have e : (pre ++ t).length = pre.length + t.length := List.length_append
  rw [aMk_nw hl (by rw [e]; exact hlen), e, List.append_assoc]
theorem k_newi (hV : Clo g d mi mL ini V) {len N a n' : Nat} {z : Int} {pre t t' : aW} (hC : pC g mi pc = some (.newarray .int, 2)) (hz : (len : Int) = z) (hl : len ≤ 100000) (hN : pre.length = N) (ha : N + t.length = a) (hlen : a < 600000) (hn' : n + len = n') (hn : n' ≤ 7000000) (ht : t ++ [iniI len] = t') (hp : pc + 2 = pc') (k : V (pc', L, .ref a :: r, pre ++ t', n')) : V (pc, L, vI z :: r, pre ++ t, n) := by
  subst hp
  subst ht
  subst hn'
  subst hz
  refine hV _ _ _ _ 0 hC ?_ k
  have e : (Int32.ofInt (len : Int)).toNatClampNeg = len := by rw [i32_n (by omega), Int.toNat_natCast]
  simp only [st1, s0, sQ, sA, sB, sI, sJ, sG, sH, sM, sN, iL, e, k_mk hl hN ha hlen, if_pos hn]
  rfl
theorem k_newc (hV : Clo g d mi mL ini V) {len N a n' : Nat} {z : Int} {pre t t' : aW} (hC : pC g mi pc = some (.newarray .char, 2)) (hz : (len : Int) = z) (hl : len ≤ 100000) (hN : pre.length = N) (ha : N + t.length = a) (hlen : a < 600000) (hn' : n + len = n') (hn : n' ≤ 7000000) (ht : t ++ [iniC len] = t') (hp : pc + 2 = pc') (k : V (pc', L, .ref a :: r, pre ++ t', n')) : V (pc, L, vI z :: r, pre ++ t, n) := by
  subst hp
  subst ht
  subst hn'
  subst hz
  refine hV _ _ _ _ 0 hC ?_ k
  have e : (Int32.ofInt (len : Int)).toNatClampNeg = len := by rw [i32_n (by omega), Int.toNat_natCast]
  simp only [st1, s0, sQ, sA, sB, sI, sJ, sG, sH, sM, sN, iL, e, k_mk hl hN ha hlen, if_pos hn]
  rfl
theorem k_newz (hV : Clo g d mi mL ini V) {len N a n' : Nat} {z : Int} {pre t t' : aW} (hC : pC g mi pc = some (.newarray .boolean, 2)) (hz : (len : Int) = z) (hl : len ≤ 100000) (hN : pre.length = N) (ha : N + t.length = a) (hlen : a < 600000) (hn' : n + len = n') (hn : n' ≤ 7000000) (ht : t ++ [iniZ len] = t') (hp : pc + 2 = pc') (k : V (pc', L, .ref a :: r, pre ++ t', n')) : V (pc, L, vI z :: r, pre ++ t, n) := by
  subst hp
  subst ht
  subst hn'
  subst hz
  refine hV _ _ _ _ 0 hC ?_ k
  have e : (Int32.ofInt (len : Int)).toNatClampNeg = len := by rw [i32_n (by omega), Int.toNat_natCast]
  simp only [st1, s0, sQ, sA, sB, sI, sJ, sG, sH, sM, sN, iL, e, k_mk hl hN ha hlen, if_pos hn]
  rfl
theorem k_newj (hV : Clo g d mi mL ini V) {len N a n' : Nat} {z : Int} {pre t t' : aW} (hC : pC g mi pc = some (.newarray .long, 2)) (hz : (len : Int) = z) (hl : len ≤ 100000) (hN : pre.length = N) (ha : N + t.length = a) (hlen : a < 600000) (hn' : n + len = n') (hn : n' ≤ 7000000) (ht : t ++ [iniJ len] = t') (hp : pc + 2 = pc') (k : V (pc', L, .ref a :: r, pre ++ t', n')) : V (pc, L, vI z :: r, pre ++ t, n) := by
  subst hp
  subst ht
  subst hn'
  subst hz
  refine hV _ _ _ _ 0 hC ?_ k
  have e : (Int32.ofInt (len : Int)).toNatClampNeg = len := by rw [i32_n (by omega), Int.toNat_natCast]
  simp only [st1, s0, sQ, sA, sB, sI, sJ, sG, sH, sM, sN, iL, e, k_mk hl hN ha hlen, if_pos hn]
  rfl
theorem k_newr (hV : Clo g d mi mL ini V) {len idx ci M N a n' : Nat} {z zq : Int} {C : String} {Tb : u_T} {pre t t' : aW} (hC : pC g mi pc = some (.anewarray idx, 3)) (hl0 : pL g mi idx = some (2, ci, zq)) (hcl : (pK g)[ci]? = some (C, Tb, M)) (ho : C ∈ pO g) (hz : (len : Int) = z) (hl : len ≤ 100000) (hN : pre.length = N) (ha : N + t.length = a) (hlen : a < 600000) (hn' : n + len = n') (hn : n' ≤ 7000000) (ht : t ++ [iniR C len] = t') (hp : pc + 3 = pc') (k : V (pc', L, .ref a :: r, pre ++ t', n')) : V (pc, L, vI z :: r, pre ++ t, n) := by
  subst hp
  subst ht
  subst hn'
  subst hz
  refine hV _ _ _ _ 0 hC ?_ k
  have e : (Int32.ofInt (len : Int)).toNatClampNeg = len := by rw [i32_n (by omega), Int.toNat_natCast]
  simp only [st1, s0, sQ, sA, sB, sI, sJ, sG, sH, sM, sN, iL, hl0, hcl, if_pos ho, e, k_mk hl hN ha hlen, if_pos hn]
  rfl
theorem k_at {pre t : aW} (N j : Nat) (hN : pre.length = N) : (pre ++ t)[N + j]? = t[j]? := by
  subst hN
  rw [List.getElem?_append_right (by omega)]
  congr 1
  omega
theorem k_set {pre t : aW} (N j : Nat) (hN : pre.length = N) (c : Option aC) : (pre ++ t).set (N + j) c = pre ++ t.set j c := by
  subst hN
  rw [List.set_append_right _ _ (by omega)]
  congr 2
  omega
theorem k_put (hV : Clo g d mi mL ini V) {idx tg ci N a : Nat} (j : Nat) {kf : Int} {fs : List Value} {v : Value} {pre t t' : aW} (hC : pC g mi pc = some (.putfield idx, 3)) (hl : pL g mi idx = some (tg, ci, kf)) (ht : tg = 0 ∨ (tg = 6 ∧ ini = true)) (hN : pre.length = N) (ha : N + j = a) (hw : t[j]? = some (some (.inr (ci, fs)))) (hf : kf.toNat < fs.length) (ho : okP (pT g ci kf.toNat) v = true) (hw2 : t.set j (iniO ci (fs.set kf.toNat v)) = t') (hp : pc + 3 = pc') (k : V (pc', L, r, pre ++ t', n)) : V (pc, L, v :: .ref a :: r, pre ++ t, n) := by
  subst hw2
  subst ha
  exact r_putf hV hC hl ht ((k_at N j hN).trans hw) hf ho (k_set N j hN _) hp k
theorem k_get (hV : Clo g d mi mL ini V) {idx tg ci N a : Nat} (j : Nat) {kf : Int} {fs : List Value} {v : Value} {pre t : aW} (hC : pC g mi pc = some (.getfield idx, 3)) (hl : pL g mi idx = some (tg, ci, kf)) (ht : tg = 0 ∨ tg = 6 ∨ tg = 10) (hN : pre.length = N) (ha : N + j = a) (hw : t[j]? = some (some (.inr (ci, fs)))) (hf : fs[kf.toNat]? = some v) (hp : pc + 3 = pc') (k : V (pc', L, v :: r, pre ++ t, n)) : V (pc, L, .ref a :: r, pre ++ t, n) := by
  subst ha
  exact r_getf hV hC hl ht ((k_at N j hN).trans hw) hf hp k
theorem k_calli (hV : Clo g (d + 1) mi mL ini V) {idx k np b n' : Nat} {z : Int} {y : MethodName} {cc : ByteArray} {mL' ck : Nat} {ret : Option FieldType} {ini' : Bool} {as rest : List Value} {pre t t' : aW} (t1 t2 : aW) {o : Option aC} (hC : pC g mi pc = some (.invokespecial idx, 3)) (hl : pL g mi idx = some (1, k, z)) (hz : z = 2 ∨ z = 3) (hI : pI g k = some (y, cc, mL', ret, np, ck, ini')) (ht : (S.take np).reverse = as) (hd : S.drop np = .ref b :: rest) (hcat : (rest.map fun v => v.category).sum ≤ 8) (hfl : (aFl (.ref b :: as)).length ≤ mL') (hL : L.length = mL) (h1 : t1 ++ [o] = t) (hr : Ru g d k (none, (pre ++ t1) ++ t2, n') (0, aEnt mL' (.ref b :: as), [], (pre ++ t1) ++ [o], n)) (h2 : t1 ++ t2 = t') (hp : pc + 3 = pc') (kk : V (pc', L, rest, pre ++ t', n')) : V (pc, L, S, pre ++ t, n) := by
  subst h1
  subst h2
  rw [← List.append_assoc pre t1 t2] at kk
  rw [← List.append_assoc pre t1 [o]]
  exact v_calli hV hC hl hz hI ht hd hcat hfl hL hr rfl hp kk
/-- a reference is laid into an array -/
theorem k_aast (hV : Clo g d mi mL ini V) {a v ci M : Nat} {j : Int} {C : String} {Tb : u_T} {fs : List Value} {rs : List (Option Nat)} {w' : aW} (hC : pC g mi pc = some (.aastore, 1)) (hw : w[a]? = some (some (.inl (.object C, .inr (.inr rs))))) (hw2 : w[v]? = some (some (.inr (ci, fs)))) (hcl : (pK g)[ci]? = some (C, Tb, M)) (ho : C ∈ pO g) (hl : rs.length ≤ 100000) (hj : 0 ≤ j ∧ j < rs.length) (hs : w.set a (some (.inl (.object C, .inr (.inr (rs.set j.toNat (some v)))))) = w') (hp : pc + 1 = pc') (k : V (pc', L, r, w', n)) : V (pc, L, .ref v :: vI j :: .ref a :: r, w, n) := by
  subst hp
  subst hs
  have hok := okIx (xs := rs) rfl hj hl
  have hcond : ¬ ((Int32.ofInt j < 0 ∨ rs.length ≤ (Int32.ofInt j).toNatClampNeg) ∨ ¬ C ∈ pO g ∨ ¬ True) := by
    rintro (q | q | q)
    · exact hok q
    · exact q ho
    · exact q trivial
  have e : (Int32.ofInt j).toNatClampNeg = j.toNat := i32_n (by omega)
  rw [← e] at k
  refine hV _ _ _ _ 0 hC ?_ k
  simp only [st1, s0, sQ, sA, sB, sI, sJ, sG, sH, sM, iL, hw, hw2, hcl]
  rw [if_neg hcond]
  rfl
end Rows7
