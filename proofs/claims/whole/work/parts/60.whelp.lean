/-! ===== places of methods: what their judgements are over; further rules ===== -/
/-- the script, the formatter, the world's shape, the slots made -/
abbrev Cx : Type := List Int32 × Value × List Sh × Nat
def oI : Option Int → Option Value
  | none => none
  | some x => some (vI x)
def oJ : Option Int → Option Value
  | none => none
  | some x => some (vJ x)
def oR : Option Nat → Option Value
  | none => none
  | some x => some (.ref x)
abbrev cO (c : Nat) : Prop := c = 9 ∨ c = 13
abbrev sO (s : Nat) : Prop := s = 17 ∨ s = 24 ∨ (26 ≤ s ∧ s ≤ 65) ∨ s = 69 ∨ s = 76
abbrev fO (f : Nat) : Prop := f = 67 ∨ f = 74
def isSt : Option Sh → Bool
  | some (.inl (8, [0, 0, 0, 0, 0, 0, 0, 0, 0, 0, 0])) => true
  | _ => false
theorem isSt_ok {o : Option Sh} (h : isSt o = true) : o = some stS := by
  unfold isSt at h
  split at h
  · rfl
  · cases h
theorem sSh {sh : List Sh} (hB : Bsh sh) {s : Nat} (h : sO s) : sh[s]? = some stS := hB _ _ (isSt_ok ((by decide +kernel : ∀ s : Fin 77, (s.val = 17 ∨ s.val = 24 ∨ (26 ≤ s.val ∧ s.val ≤ 65) ∨ s.val = 69 ∨ s.val = 76) → isSt bs[s.val]? = true) ⟨s, by omega⟩ h))
def fLen (f : Nat) : Nat := if f = 67 then 64 else 7
theorem fLen_le (f : Nat) : fLen f ≤ 100000 := by unfold fLen; split <;> decide
abbrev tO (t : Nat) : Prop := t = 94 ∨ t = 95 ∨ t = 96 ∨ t = 97
def tLen (t : Nat) : Nat := if t = 94 then 5 else if t = 96 then 4 else 24
theorem tLen_le (t : Nat) : tLen t ≤ 100000 := by unfold tLen; split; · decide
                                                  · split <;> decide
theorem tSh {sh : List Sh} (hB : Bsh sh) {t : Nat} (h : tO t) : sh[t]? = some (.inr (.inl (0, tLen t))) := by
  rcases h with rfl | rfl | rfl | rfl <;> exact hB _ _ rfl
abbrev aO (a : Nat) : Prop := a = 5 ∨ a = 81
def aLen (a : Nat) : Nat := if a = 5 then 4 else 189
theorem aLen_le (a : Nat) : aLen a ≤ 100000 := by unfold aLen; split <;> decide
theorem aSh {sh : List Sh} (hB : Bsh sh) {a : Nat} (h : aO a) : sh[a]? = some (.inr (.inl (0, aLen a))) := by
  rcases h with rfl | rfl <;> exact hB _ _ rfl
theorem fSh {sh : List Sh} (hB : Bsh sh) {f : Nat} (h : fO f) : sh[f]? = some (.inl (2, [f + 1 + 3, 0])) ∧ sh[f + 1]? = some (.inr (.inl (0, fLen f))) := by
  rcases h with rfl | rfl
  · exact ⟨hB _ _ rfl, hB _ _ rfl⟩
  · exact ⟨hB _ _ rfl, hB _ _ rfl⟩
/-- the method answers a long -/
def Rj (g : aPg) (d mi : Nat) (sh : List Sh) (n : Nat) (Q : Int → Mm → Prop) (x : aS) : Prop := ∃ v m', Q v m' ∧ Ru g d mi (some (vJ v), Wd sh m', n) x
theorem Rj_clo {g : aPg} {d mi n : Nat} {sh : List Sh} {Q : Int → Mm → Prop} {q : aMI} (hq : pI g mi = some q) : Clo g d mi q.2.2.1 q.2.2.2.2.2.2 (Rj g d mi sh n Q) := by
  intro x y i len f h1 h2 ⟨v, m', h3, h4⟩
  exact ⟨v, m', h3, Ru_clo hq x y i len f h1 h2 h4⟩
theorem rj_ret {g : aPg} {d mi n pc : Nat} {sh : List Sh} {m : Mm} {L : aL} {Q : Int → Mm → Prop} {v : Int} {q : aMI} (hq : pI g mi = some q) (hC : pC g mi pc = some (.lreturn, 1)) (hr : sR q.2.2.2.1 .lreturn [vJ v] = some (some (vJ v))) (h : Q v m) : Rj g d mi sh n Q (pc, L, [vJ v], Wd sh m, n) := ⟨v, m, h, Ru_ret hq hC hr⟩
theorem Rq.mono {g : aPg} {d mi n : Nat} {sh : List Sh} {Q Q' : Int → Mm → Prop} {x : aS} (h : Rq g d mi sh n Q x) (hQ : ∀ v m, Q v m → Q' v m) : Rq g d mi sh n Q' x := by
  obtain ⟨v, m', h3, h4⟩ := h
  exact ⟨v, m', hQ _ _ h3, h4⟩
theorem Ru0.mono {g : aPg} {d mi n : Nat} {sh : List Sh} {Q Q' : Mm → Prop} {x : aS} (h : Ru0 g d mi sh n Q x) (hQ : ∀ m, Q m → Q' m) : Ru0 g d mi sh n Q' x := by
  obtain ⟨m', h3, h4⟩ := h
  exact ⟨m', hQ _ h3, h4⟩
theorem upR_ne {m : Mm} {a b : Nat} {lo hi j : Int} {f : Int → Int} (h : b ≠ a) : upR m a lo hi f b j = m b j := by rw [upR_off h]
theorem cmp3 (x y : Int) : -2147483648 ≤ (if y < x then (1 : Int) else if x = y then 0 else -1) ∧ (if y < x then (1 : Int) else if x = y then 0 else -1) < 2147483648 := by
  split
  · decide
  · split <;> decide
theorem gOcs {X : Cx} : "SledgeVote$Law" ∈ pO (gP X.1 X.2.1) ∧ "SledgeVote$State" ∈ pO (gP X.1 X.2.1) := by
  exact ⟨(by decide : "SledgeVote$Law" ∈ gOc), (by decide : "SledgeVote$State" ∈ gOc)⟩
/-- tables of the reader -/
def gx (T : List Int) (j : Int) : Int := T.getD j.toNat 0
def xUSUAL : List Int := [5, 2, 6, 10, 3, 1, 0, 3, 0, 0, 3, 1, 3, 2]
def xMOST_OF_KIND : List Int := [1, 6, 4, 6]
def xFIRST : List Int := [0, 5, 9, 10, 14]
def xLOW : List Int := [3, 0, 1, 1, 0, 1, 0, 1, 0, 0, 1, 0, 0, 0]
def xHIGH : List Int := [9, 8, 60, 20, 9, 20, 8, 9, 1, 19, 9, 2, 9, 9]
section Rows5
variable {g : aPg} {d mi mL : Nat} {ini : Bool} {V : aS → Prop} {pc pc' : Nat} {L : aL} {S r : List Value} {w : aW} {n : Nat} {sh : List Sh} {m : Mm}
theorem q_iald (hV : Clo g d mi mL ini V) {a len : Nat} {j z : Int} (hC : pC g mi pc = some (.iaload, 1)) (hs : sh[a]? = some (.inr (.inl (0, len)))) (hl : len ≤ 100000) (hz : (len : Int) = z) (hj : 0 ≤ j ∧ j < z) (hp : pc + 1 = pc') (k : V (pc', L, vI (m a j) :: r, Wd sh m, n)) : V (pc, L, vI j :: .ref a :: r, Wd sh m, n) := tt_iald hV hC hs hl (by rw [hz]; exact hj) hp k
theorem q_zald (hV : Clo g d mi mL ini V) {a len : Nat} {j z : Int} (hC : pC g mi pc = some (.baload, 1)) (hs : sh[a]? = some (.inr (.inl (1, len)))) (hl : len ≤ 100000) (hz : (len : Int) = z) (hj : 0 ≤ j ∧ j < z) (hp : pc + 1 = pc') (k : V (pc', L, vI (m a j) :: r, Wd sh m, n)) : V (pc, L, vI j :: .ref a :: r, Wd sh m, n) := tt_zald hV hC hs hl (by rw [hz]; exact hj) hp k
theorem q_cald (hV : Clo g d mi mL ini V) {a len : Nat} {j z : Int} (hC : pC g mi pc = some (.caload, 1)) (hs : sh[a]? = some (.inr (.inl (2, len)))) (hl : len ≤ 100000) (hz : (len : Int) = z) (hj : 0 ≤ j ∧ j < z) (hp : pc + 1 = pc') (k : V (pc', L, vI (m a j) :: r, Wd sh m, n)) : V (pc, L, vI j :: .ref a :: r, Wd sh m, n) := tt_cald hV hC hs hl (by rw [hz]; exact hj) hp k
theorem q_iast (hV : Clo g d mi mL ini V) {a len : Nat} {j y z : Int} (hC : pC g mi pc = some (.iastore, 1)) (hs : sh[a]? = some (.inr (.inl (0, len)))) (hl : len ≤ 100000) (hz : (len : Int) = z) (hj : 0 ≤ j ∧ j < z) (hp : pc + 1 = pc') (k : V (pc', L, r, Wd sh (up m a j y), n)) : V (pc, L, vI y :: vI j :: .ref a :: r, Wd sh m, n) := tt_iast hV hC hs hl (by rw [hz]; exact hj) hp k
theorem q_cast (hV : Clo g d mi mL ini V) {a len : Nat} {j y z : Int} (hC : pC g mi pc = some (.castore, 1)) (hs : sh[a]? = some (.inr (.inl (2, len)))) (hl : len ≤ 100000) (hz : (len : Int) = z) (hj : 0 ≤ j ∧ j < z) (hy : 0 ≤ y ∧ y < 65536) (hp : pc + 1 = pc') (k : V (pc', L, r, Wd sh (up m a j y), n)) : V (pc, L, vI y :: vI j :: .ref a :: r, Wd sh m, n) := tt_cast hV hC hs hl (by rw [hz]; exact hj) hy hp k
theorem q_zast (hV : Clo g d mi mL ini V) {a len : Nat} {j y z : Int} (hC : pC g mi pc = some (.bastore, 1)) (hs : sh[a]? = some (.inr (.inl (1, len)))) (hl : len ≤ 100000) (hz : (len : Int) = z) (hj : 0 ≤ j ∧ j < z) (hy : y = 0 ∨ y = 1) (hp : pc + 1 = pc') (k : V (pc', L, r, Wd sh (up m a j y), n)) : V (pc, L, vI y :: vI j :: .ref a :: r, Wd sh m, n) := tt_zast hV hC hs hl (by rw [hz]; exact hj) hy hp k
theorem q_alen (hV : Clo g d mi mL ini V) {a t len : Nat} (hC : pC g mi pc = some (.arraylength, 1)) (hs : sh[a]? = some (.inr (.inl (t, len)))) (ht : t < 3) {z : Int} (hz : (len : Int) = z) (hp : pc + 1 = pc') (k : V (pc', L, vI z :: r, Wd sh m, n)) : V (pc, L, .ref a :: r, Wd sh m, n) := tt_alen hV hC hs ht hp (by rw [hz]; exact k)
theorem q_aald (hV : Clo g d mi mL ini V) {a len t b : Nat} {j z : Int} (hC : pC g mi pc = some (.aaload, 1)) (hs : sh[a]? = some (.inr (.inl (t, len)))) (ht : t = 4 ∨ t = 5) (ho : "SledgeVote$Law" ∈ pO g ∧ "SledgeVote$State" ∈ pO g) (hl : len ≤ 100000) (hz : (len : Int) = z) (hj : 0 ≤ j ∧ j < z) (hb : m a j = (b : Int)) (hp : pc + 1 = pc') (k : V (pc', L, .ref b :: r, Wd sh m, n)) : V (pc, L, vI j :: .ref a :: r, Wd sh m, n) := tt_aald hV hC hs ht ho hl (by rw [hz]; exact hj) hb hp k
theorem q_ieald (hV : Clo g d mi mL ini V) {a : Nat} {j K : Int} {xs : List Int32} {T : List Int} (hC : pC g mi pc = some (.iaload, 1)) (hw : sh.length ≤ 1000000) (ha : Nat.ble 1000000 a = true) (he : pE g a = some (.inl xs)) (hT : xs = T.map Int32.ofInt) (hk : (T.length : Int) = K) (hj : 0 ≤ j ∧ j < K) (hr : T.all (fun z => decide (-2147483648 ≤ z ∧ z < 2147483648)) = true) (hl : T.length ≤ 100000) (hp : pc + 1 = pc') (k : V (pc', L, vI (gx T j) :: r, Wd sh m, n)) : V (pc, L, vI j :: .ref a :: r, Wd sh m, n) := by
  have hlen : xs.length = T.length := by rw [hT, List.length_map]
  have hjn : j.toNat < T.length := by omega
  refine tt_ieald hV hC (Nat.le_trans hw (Nat.le_of_ble_eq_true ha)) he (by omega) (by omega) ?_ hp k
  subst hT
  unfold gx
  rw [List.getD_eq_getElem?_getD, List.getD_eq_getElem?_getD, List.getElem?_map, List.getElem?_eq_getElem hjn]
  show (Int32.ofInt T[j.toNat]).toInt = T[j.toNat]
  have := List.all_eq_true.mp hr _ (List.getElem_mem hjn)
  exact i32_r (of_decide_eq_true this)
theorem q_copy (hV : Clo g (d + 1) mi mL ini V) {idx a l0 l1 a0 : Nat} {zq sp dp k z0 z1 : Int} (hC : pC g mi pc = some (.invokestatic idx, 3)) (hl : pL g mi idx = some (7, 0, zq)) (hL : L.length = mL) (hs0 : sh[a0]? = some (.inr (.inl (0, l0)))) (hs : sh[a]? = some (.inr (.inl (0, l1)))) (hl0 : l0 ≤ 100000) (hl1 : l1 ≤ 100000) (hz0 : (l0 : Int) = z0) (hz1 : (l1 : Int) = z1) (h1 : 0 ≤ sp ∧ sp + k ≤ z0) (h2 : 0 ≤ dp ∧ dp + k ≤ z1) (h3 : 0 ≤ k) (hcat : (r.map fun v => v.category).sum ≤ 8) (hp : pc + 3 = pc') (kk : V (pc', L, r, Wd sh (upR m a dp (dp + k) (fun j => m a0 (j - dp + sp))), n)) : V (pc, L, vI k :: vI dp :: .ref a :: vI sp :: .ref a0 :: r, Wd sh m, n) := tt_copy hV hC hl hL hs0 hs hl0 hl1 (by omega) (by omega) h3 hcat hp kk
theorem q_copyX (hV : Clo g (d + 1) mi mL ini V) {idx a l1 a0 : Nat} {zq sp dp k K z1 : Int} {xs : List Int32} {T : List Int} (hC : pC g mi pc = some (.invokestatic idx, 3)) (hl : pL g mi idx = some (7, 0, zq)) (hL : L.length = mL) (hw : sh.length ≤ 1000000) (ha : Nat.ble 1000000 a0 = true) (he : pE g a0 = some (.inl xs)) (hT : xs = T.map Int32.ofInt) (hk : (T.length : Int) = K) (hs : sh[a]? = some (.inr (.inl (0, l1)))) (hl1 : l1 ≤ 100000) (hz1 : (l1 : Int) = z1) (h1 : 0 ≤ sp ∧ sp + k ≤ K) (h2 : 0 ≤ dp ∧ dp + k ≤ z1) (h3 : 0 ≤ k) (hr : T.all (fun z => decide (-2147483648 ≤ z ∧ z < 2147483648)) = true) (hl2 : T.length ≤ 100000) (hcat : (r.map fun v => v.category).sum ≤ 8) (hp : pc + 3 = pc') (kk : V (pc', L, r, Wd sh (upR m a dp (dp + k) (fun j => gx T (j - dp + sp))), n)) : V (pc, L, vI k :: vI dp :: .ref a :: vI sp :: .ref a0 :: r, Wd sh m, n) := by
  have hlen : xs.length = T.length := by rw [hT, List.length_map]
  refine tt_copyX hV hC hl hL (Nat.le_trans hw (Nat.le_of_ble_eq_true ha)) he hs (by omega) hl1 (by omega) (by omega) h3 hcat hp ?_
  have e : (upR m a dp (dp + k) fun j => (xs.getD (j - dp + sp).toNat 0).toInt) = upR m a dp (dp + k) (fun j => gx T (j - dp + sp)) := by
    funext b j
    unfold upR
    by_cases c : b = a ∧ dp ≤ j ∧ j < dp + k
    · rw [if_pos c, if_pos c]
      have hjn : (j - dp + sp).toNat < T.length := by omega
      subst hT
      show ((List.map Int32.ofInt T).getD (j - dp + sp).toNat 0).toInt = T.getD (j - dp + sp).toNat 0
      rw [List.getD_eq_getElem?_getD, List.getD_eq_getElem?_getD, List.getElem?_map, List.getElem?_eq_getElem hjn]
      show (Int32.ofInt T[(j - dp + sp).toNat]).toInt = T[(j - dp + sp).toNat]
      have := List.all_eq_true.mp hr _ (List.getElem_mem hjn)
      exact i32_r (of_decide_eq_true this)
    · rw [if_neg c, if_neg c]
  rw [e]
  exact kk
theorem sw_tab {e lo hi x : Int} {offs : Array Int} (hx : -2147483648 ≤ x ∧ x < 2147483648) (ho : x < lo ∨ hi < x) (hd : (pc : Int) + e = (pc' : Int)) : sW (.tableswitch e lo hi offs) pc L (vI x :: r) = some (pc', L, r) := by
  show (if (Int32.ofInt x).toInt < lo ∨ hi < (Int32.ofInt x).toInt then aTo pc e L r else _) = _
  rw [i32_r hx, if_pos ho]
  unfold aTo aTg
  rw [if_pos (by omega), hd]
  rfl
theorem sw_look {e x a1 o1 a2 o2 a3 o3 : Int} (hx : -2147483648 ≤ x ∧ x < 2147483648) (h12 : a1 < a2 ∧ a2 < a3) (h1 : x ≠ a1) (h2 : x ≠ a2) (h3 : x ≠ a3) (hd : (pc : Int) + e = (pc' : Int)) : sW (.lookupswitch e #[(a1, o1), (a2, o2), (a3, o3)]) pc L (vI x :: r) = some (pc', L, r) := by
  show (if (([(a1, o1), (a2, o2), (a3, o3)] : List (Int × Int)).zip ([(a1, o1), (a2, o2), (a3, o3)].drop 1)).all (fun (a, next) => a.1 < next.1) = true then aTo pc (Op.lookupswitch.offset [(a1, o1), (a2, o2), (a3, o3)] e (Int32.ofInt x).toInt) L r else none) = _
  rw [if_pos (by simp [h12.1, h12.2]), i32_r hx, Op.lookupswitch.offset_cons, if_neg (Ne.symm h1), Op.lookupswitch.offset_cons, if_neg (Ne.symm h2), Op.lookupswitch.offset_cons, if_neg (Ne.symm h3), Op.lookupswitch.offset_nil]
  unfold aTo aTg
  rw [if_pos (by omega), hd]
  rfl
theorem q_cx1I (hV : Clo g (d + 1) mi mL ini V) {idx k ck mL' n' b zz : Nat} {y : MethodName} {cc : ByteArray} {ret : Option FieldType} {ini' : Bool} {rest : List Value} {w' : aW} {x1 v : Value} (hC : pC g mi pc = some (.invokevirtual idx, 3)) (hl : pL g mi idx = some (1, k, 4)) (hI : pI g k = some (y, cc, mL', ret, 1, ck, ini')) (hw : sh.length ≤ 1000000) (hb : Nat.ble 1000000 b = true) (he : pE g b = some (.inr (.inr zz))) (hcat : (rest.map fun v => v.category).sum ≤ 8) (hfl : (aFl [.ref b, x1]).length ≤ mL') (hL : L.length = mL) (hr : Ru g d k (some v, w', n') (0, aEnt mL' [.ref b, x1], [], Wd sh m, n)) (hp : pc + 3 = pc') (kk : V (pc', L, v :: rest, w', n')) : V (pc, L, x1 :: .ref b :: rest, Wd sh m, n) := by
  refine r_call hV hC rfl hL ?_ ?_ hr rfl hp kk
  · simp [s0, sQ, sA, sB, sI, sJ, sG, sH, sM, sN, iL]
  · have hn : (Wd sh m)[b]? = none := Wd_none (Nat.le_trans hw (Nat.le_of_ble_eq_true hb))
    unfold sC
    simp only [hl, hI]
    show (match (Wd sh m)[b]? with | some (some (.inr (ci, _))) => _ | none => _ | _ => _) = _
    rw [hn]
    dsimp only
    rw [he]
    dsimp only
    rw [if_pos ⟨trivial, hcat, hfl⟩]
    rfl
theorem tt_astoreN3 (hV : Clo g d mi mL ini V) {a0 a1 a2 b : Option Value} (hC : pC g mi pc = some (.astore_n 3, 1)) (hq : aKl (a0 :: a1 :: a2 :: b :: L) 3 = a0 :: a1 :: a2 :: b :: L) (hp : pc + 1 = pc') (k : V (pc', a0 :: a1 :: a2 :: some .null :: L, r, w, n)) : V (pc, a0 :: a1 :: a2 :: b :: L, .null :: r, w, n) := r_astoreN_n hV hC (Nat.le_of_ble_eq_true rfl) (by unfold aSt1; first | rw [hq]; rfl | (show List.set (aKl _ 3) 3 _ = _; rw [hq]; rfl)) hp k
theorem lmax_e {x y : Int} (hx : -9223372036854775808 ≤ x ∧ x < 9223372036854775808) (hy : -9223372036854775808 ≤ y ∧ y < 9223372036854775808) : Int64.ofInt x < Int64.ofInt y ↔ x < y := by
  rw [Int64.lt_iff_toInt_lt, Int64.toInt_ofInt_of_le (by omega) (by omega), Int64.toInt_ofInt_of_le (by omega) (by omega)]
theorem q_lmax (hV : Clo g (d + 1) mi mL ini V) {idx : Nat} {zq x y : Int} (hC : pC g mi pc = some (.invokestatic idx, 3)) (hl : pL g mi idx = some (7, 4, zq)) (hL : L.length = mL) (hx : -9223372036854775808 ≤ x ∧ x < 9223372036854775808) (hy : -9223372036854775808 ≤ y ∧ y < 9223372036854775808) (hcat : (r.map fun v => v.category).sum ≤ 8) (hp : pc + 3 = pc') (k : V (pc', L, vJ (max x y) :: r, w, n)) : V (pc, L, vJ y :: vJ x :: r, w, n) := by
  subst hp
  have e : (if Int64.ofInt y < Int64.ofInt x then Int64.ofInt x else Int64.ofInt y) = Int64.ofInt (max x y) := by
    by_cases h : y < x
    · rw [if_pos ((lmax_e hy hx).mpr h)]
      congr 1
      omega
    · rw [if_neg (fun q => h ((lmax_e hy hx).mp q))]
      congr 1
      omega
  refine r_natS hV hC hl hL (y := ((pc + 3, L, vJ (max x y) :: r), w)) ?_ k
  simp only [sP, hl, e, if_neg (Nat.not_lt.mpr hcat)]
  rfl
theorem q_lmin (hV : Clo g (d + 1) mi mL ini V) {idx : Nat} {zq x y : Int} (hC : pC g mi pc = some (.invokestatic idx, 3)) (hl : pL g mi idx = some (7, 5, zq)) (hL : L.length = mL) (hx : -9223372036854775808 ≤ x ∧ x < 9223372036854775808) (hy : -9223372036854775808 ≤ y ∧ y < 9223372036854775808) (hcat : (r.map fun v => v.category).sum ≤ 8) (hp : pc + 3 = pc') (k : V (pc', L, vJ (min x y) :: r, w, n)) : V (pc, L, vJ y :: vJ x :: r, w, n) := by
  subst hp
  have e : (if Int64.ofInt y < Int64.ofInt x then Int64.ofInt y else Int64.ofInt x) = Int64.ofInt (min x y) := by
    by_cases h : y < x
    · rw [if_pos ((lmax_e hy hx).mpr h)]
      congr 1
      omega
    · rw [if_neg (fun q => h ((lmax_e hy hx).mp q))]
      congr 1
      omega
  refine r_natS hV hC hl hL (y := ((pc + 3, L, vJ (min x y) :: r), w)) ?_ k
  simp only [sP, hl, e, if_neg (Nat.not_lt.mpr hcat)]
  rfl
theorem tz_iinc1 (hV : Clo g d mi mL ini V) {x c y : Int} {a0 : Option Value} (hC : pC g mi pc = some (.iinc 1 c, 3)) (hq : aKl (a0 :: some (vI x) :: L) 1 = a0 :: some (vI x) :: L) (hy : x + c = y) (hp : pc + 3 = pc') (k : V (pc', a0 :: some (vI y) :: L, S, w, n)) : V (pc, a0 :: some (vI x) :: L, S, w, n) := tt_iinc1 hV hC hq hp (by rw [hy]; exact k)
theorem tz_iinc2 (hV : Clo g d mi mL ini V) {x c y : Int} {a0 a1 : Option Value} (hC : pC g mi pc = some (.iinc 2 c, 3)) (hq : aKl (a0 :: a1 :: some (vI x) :: L) 2 = a0 :: a1 :: some (vI x) :: L) (hy : x + c = y) (hp : pc + 3 = pc') (k : V (pc', a0 :: a1 :: some (vI y) :: L, S, w, n)) : V (pc, a0 :: a1 :: some (vI x) :: L, S, w, n) := tt_iinc2 hV hC hq hp (by rw [hy]; exact k)
theorem tz_iinc3 (hV : Clo g d mi mL ini V) {x c y : Int} {a0 a1 a2 : Option Value} (hC : pC g mi pc = some (.iinc 3 c, 3)) (hq : aKl (a0 :: a1 :: a2 :: some (vI x) :: L) 3 = a0 :: a1 :: a2 :: some (vI x) :: L) (hy : x + c = y) (hp : pc + 3 = pc') (k : V (pc', a0 :: a1 :: a2 :: some (vI y) :: L, S, w, n)) : V (pc, a0 :: a1 :: a2 :: some (vI x) :: L, S, w, n) := tt_iinc3 hV hC hq hp (by rw [hy]; exact k)
theorem tz_iinc4 (hV : Clo g d mi mL ini V) {x c y : Int} {a0 a1 a2 a3 : Option Value} (hC : pC g mi pc = some (.iinc 4 c, 3)) (hq : aKl (a0 :: a1 :: a2 :: a3 :: some (vI x) :: L) 4 = a0 :: a1 :: a2 :: a3 :: some (vI x) :: L) (hy : x + c = y) (hp : pc + 3 = pc') (k : V (pc', a0 :: a1 :: a2 :: a3 :: some (vI y) :: L, S, w, n)) : V (pc, a0 :: a1 :: a2 :: a3 :: some (vI x) :: L, S, w, n) := tt_iinc4 hV hC hq hp (by rw [hy]; exact k)
theorem tz_iinc5 (hV : Clo g d mi mL ini V) {x c y : Int} {a0 a1 a2 a3 a4 : Option Value} (hC : pC g mi pc = some (.iinc 5 c, 3)) (hq : aKl (a0 :: a1 :: a2 :: a3 :: a4 :: some (vI x) :: L) 5 = a0 :: a1 :: a2 :: a3 :: a4 :: some (vI x) :: L) (hy : x + c = y) (hp : pc + 3 = pc') (k : V (pc', a0 :: a1 :: a2 :: a3 :: a4 :: some (vI y) :: L, S, w, n)) : V (pc, a0 :: a1 :: a2 :: a3 :: a4 :: some (vI x) :: L, S, w, n) := tt_iinc5 hV hC hq hp (by rw [hy]; exact k)
theorem tz_iinc6 (hV : Clo g d mi mL ini V) {x c y : Int} {a0 a1 a2 a3 a4 a5 : Option Value} (hC : pC g mi pc = some (.iinc 6 c, 3)) (hq : aKl (a0 :: a1 :: a2 :: a3 :: a4 :: a5 :: some (vI x) :: L) 6 = a0 :: a1 :: a2 :: a3 :: a4 :: a5 :: some (vI x) :: L) (hy : x + c = y) (hp : pc + 3 = pc') (k : V (pc', a0 :: a1 :: a2 :: a3 :: a4 :: a5 :: some (vI y) :: L, S, w, n)) : V (pc, a0 :: a1 :: a2 :: a3 :: a4 :: a5 :: some (vI x) :: L, S, w, n) := tt_iinc6 hV hC hq hp (by rw [hy]; exact k)
theorem tz_iinc7 (hV : Clo g d mi mL ini V) {x c y : Int} {a0 a1 a2 a3 a4 a5 a6 : Option Value} (hC : pC g mi pc = some (.iinc 7 c, 3)) (hq : aKl (a0 :: a1 :: a2 :: a3 :: a4 :: a5 :: a6 :: some (vI x) :: L) 7 = a0 :: a1 :: a2 :: a3 :: a4 :: a5 :: a6 :: some (vI x) :: L) (hy : x + c = y) (hp : pc + 3 = pc') (k : V (pc', a0 :: a1 :: a2 :: a3 :: a4 :: a5 :: a6 :: some (vI y) :: L, S, w, n)) : V (pc, a0 :: a1 :: a2 :: a3 :: a4 :: a5 :: a6 :: some (vI x) :: L, S, w, n) := tt_iinc7 hV hC hq hp (by rw [hy]; exact k)
theorem tz_iinc8 (hV : Clo g d mi mL ini V) {x c y : Int} {a0 a1 a2 a3 a4 a5 a6 a7 : Option Value} (hC : pC g mi pc = some (.iinc 8 c, 3)) (hq : aKl (a0 :: a1 :: a2 :: a3 :: a4 :: a5 :: a6 :: a7 :: some (vI x) :: L) 8 = a0 :: a1 :: a2 :: a3 :: a4 :: a5 :: a6 :: a7 :: some (vI x) :: L) (hy : x + c = y) (hp : pc + 3 = pc') (k : V (pc', a0 :: a1 :: a2 :: a3 :: a4 :: a5 :: a6 :: a7 :: some (vI y) :: L, S, w, n)) : V (pc, a0 :: a1 :: a2 :: a3 :: a4 :: a5 :: a6 :: a7 :: some (vI x) :: L, S, w, n) := tt_iinc8 hV hC hq hp (by rw [hy]; exact k)
theorem tz_iinc9 (hV : Clo g d mi mL ini V) {x c y : Int} {a0 a1 a2 a3 a4 a5 a6 a7 a8 : Option Value} (hC : pC g mi pc = some (.iinc 9 c, 3)) (hq : aKl (a0 :: a1 :: a2 :: a3 :: a4 :: a5 :: a6 :: a7 :: a8 :: some (vI x) :: L) 9 = a0 :: a1 :: a2 :: a3 :: a4 :: a5 :: a6 :: a7 :: a8 :: some (vI x) :: L) (hy : x + c = y) (hp : pc + 3 = pc') (k : V (pc', a0 :: a1 :: a2 :: a3 :: a4 :: a5 :: a6 :: a7 :: a8 :: some (vI y) :: L, S, w, n)) : V (pc, a0 :: a1 :: a2 :: a3 :: a4 :: a5 :: a6 :: a7 :: a8 :: some (vI x) :: L, S, w, n) := tt_iinc9 hV hC hq hp (by rw [hy]; exact k)
theorem tz_iinc10 (hV : Clo g d mi mL ini V) {x c y : Int} {a0 a1 a2 a3 a4 a5 a6 a7 a8 a9 : Option Value} (hC : pC g mi pc = some (.iinc 10 c, 3)) (hq : aKl (a0 :: a1 :: a2 :: a3 :: a4 :: a5 :: a6 :: a7 :: a8 :: a9 :: some (vI x) :: L) 10 = a0 :: a1 :: a2 :: a3 :: a4 :: a5 :: a6 :: a7 :: a8 :: a9 :: some (vI x) :: L) (hy : x + c = y) (hp : pc + 3 = pc') (k : V (pc', a0 :: a1 :: a2 :: a3 :: a4 :: a5 :: a6 :: a7 :: a8 :: a9 :: some (vI y) :: L, S, w, n)) : V (pc, a0 :: a1 :: a2 :: a3 :: a4 :: a5 :: a6 :: a7 :: a8 :: a9 :: some (vI x) :: L, S, w, n) := tt_iinc10 hV hC hq hp (by rw [hy]; exact k)
end Rows5
