/-! ===== rules with the values named; calls; answers ===== -/
section Rows2
variable {g : aPg} {d mi mL : Nat} {ini : Bool} {V : aS → Prop} {pc pc' : Nat} {L L' : aL} {S r : List Value} {w : aW} {n : Nat}
theorem v_iconst (hV : Clo g d mi mL ini V) {c : Int} (v : Int32) (hC : pC g mi pc = some (.iconst c, 1)) (hv : Int32.ofInt c = v) (hp : pc + 1 = pc') (k : V (pc', L, .int v :: S, w, n)) : V (pc, L, S, w, n) := by
  subst hv
  exact r_iconst hV hC hp k
theorem v_bipush (hV : Clo g d mi mL ini V) {c : Int} (v : Int32) (hC : pC g mi pc = some (.bipush c, 2)) (hv : (Int8.ofInt c).toInt32 = v) (hp : pc + 2 = pc') (k : V (pc', L, .int v :: S, w, n)) : V (pc, L, S, w, n) := by
  subst hv
  exact r_bipush hV hC hp k
theorem v_sipush (hV : Clo g d mi mL ini V) {c : Int} (v : Int32) (hC : pC g mi pc = some (.sipush c, 3)) (hv : (Int16.ofInt c).toInt32 = v) (hp : pc + 3 = pc') (k : V (pc', L, .int v :: S, w, n)) : V (pc, L, S, w, n) := by
  subst hv
  exact r_sipush hV hC hp k
theorem v_lconst (hV : Clo g d mi mL ini V) {c : Fin 2} (v : Int64) (hC : pC g mi pc = some (.lconst c, 1)) (hv : Int64.ofNat (c : Nat) = v) (hp : pc + 1 = pc') (k : V (pc', L, .long v :: S, w, n)) : V (pc, L, S, w, n) := by
  subst hv
  exact r_lconst hV hC hp k
theorem v_ldc (hV : Clo g d mi mL ini V) {idx a : Nat} {z : Int} (v : Int32) (hC : pC g mi pc = some (.ldc idx, 2)) (hl : pL g mi idx = some (3, a, z)) (hv : Int32.ofInt z = v) (hp : pc + 2 = pc') (k : V (pc', L, .int v :: S, w, n)) : V (pc, L, S, w, n) := by
  subst hv
  exact r_ldc hV hC hl hp k
theorem v_ldcw (hV : Clo g d mi mL ini V) {idx a : Nat} {z : Int} (v : Int32) (hC : pC g mi pc = some (.ldc_w idx, 3)) (hl : pL g mi idx = some (3, a, z)) (hv : Int32.ofInt z = v) (hp : pc + 3 = pc') (k : V (pc', L, .int v :: S, w, n)) : V (pc, L, S, w, n) := by
  subst hv
  exact r_ldcw hV hC hl hp k
theorem v_ldc2 (hV : Clo g d mi mL ini V) {idx a : Nat} {z : Int} (v : Int64) (hC : pC g mi pc = some (.ldc2_w idx, 3)) (hl : pL g mi idx = some (4, a, z)) (hv : Int64.ofInt z = v) (hp : pc + 3 = pc') (k : V (pc', L, .long v :: S, w, n)) : V (pc, L, S, w, n) := by
  subst hv
  exact r_ldc2 hV hC hl hp k
theorem v_top {x y : Int32} (h : x = y) (k : V (pc, L, .int y :: r, w, n)) : V (pc, L, .int x :: r, w, n) := h ▸ k
theorem v_topl {x y : Int64} (h : x = y) (k : V (pc, L, .long y :: r, w, n)) : V (pc, L, .long x :: r, w, n) := h ▸ k
theorem v_iinc (hV : Clo g d mi mL ini V) {k0 : Nat} {c : Int} {x : Int32} (v : Int32) (hC : pC g mi pc = some (.iinc k0 c, 3)) (hx : L[k0]? = some (some (.int x))) (hv : x + Int32.ofInt c = v) (hL : aSt1 L k0 (.int v) = L') (hp : pc + 3 = pc') (k : V (pc', L', S, w, n)) : V (pc, L, S, w, n) := by
  subst hv
  exact r_iinc hV hC hx hL hp k
theorem v_calls (hV : Clo g (d + 1) mi mL ini V) {idx k np : Nat} {y : MethodName} {cc : ByteArray} {mL' ck : Nat} {ret : Option FieldType} {ini' : Bool} {as rest S' : List Value} {v : Option Value} {w' : aW} {n' : Nat} (hC : pC g mi pc = some (.invokestatic idx, 3)) (hl : pL g mi idx = some (1, k, 0)) (hI : pI g k = some (y, cc, mL', ret, np, ck, ini')) (hn : np ≤ S.length) (ht : (S.take np).reverse = as) (hd : S.drop np = rest) (hcat : (rest.map fun v => v.category).sum ≤ 8) (hfl : (aFl as).length ≤ mL') (hL : L.length = mL) (hr : Ru g d k (v, w', n') (0, aEnt mL' as, [], w, n)) (hS : v.toList ++ rest = S') (hp : pc + 3 = pc') (kk : V (pc', L, S', w', n')) : V (pc, L, S, w, n) := by
  subst ht
  subst hd
  refine r_call hV hC rfl hL ?_ ?_ hr hS hp kk
  · simp [s0, sQ, sA, sB, sI, sJ, sG, sH, sM, sN, iL]
  · simp only [sC, hl, hI]
    rw [if_pos ⟨trivial, hn, hcat, hfl⟩]
theorem v_callv (hV : Clo g (d + 1) mi mL ini V) {idx k np b : Nat} {y : MethodName} {cc : ByteArray} {mL' ck : Nat} {ret : Option FieldType} {ini' : Bool} {as rest S' fs : List Value} {v : Option Value} {w' : aW} {n' : Nat} (hC : pC g mi pc = some (.invokevirtual idx, 3)) (hl : pL g mi idx = some (1, k, 1)) (hI : pI g k = some (y, cc, mL', ret, np, ck, ini')) (ht : (S.take np).reverse = as) (hd : S.drop np = .ref b :: rest) (hw : w[b]? = some (some (.inr (ck, fs)))) (hcat : (rest.map fun v => v.category).sum ≤ 8) (hfl : (aFl (.ref b :: as)).length ≤ mL') (hL : L.length = mL) (hr : Ru g d k (v, w', n') (0, aEnt mL' (.ref b :: as), [], w, n)) (hS : v.toList ++ rest = S') (hp : pc + 3 = pc') (kk : V (pc', L, S', w', n')) : V (pc, L, S, w, n) := by
  subst ht
  refine r_call hV hC rfl hL ?_ ?_ hr hS hp kk
  · simp [s0, sQ, sA, sB, sI, sJ, sG, sH, sM, sN, iL]
  · simp only [sC, hl, hI, hd, hw]
    rw [if_pos ⟨trivial, trivial, hcat, hfl⟩]
theorem v_ret {q : aMI} (hq : pI g mi = some q) {i : Instr} {v : Option Value} {res : Option Value × aW × Nat} (hC : pC g mi pc = some (i, iL i)) (hr : sR q.2.2.2.1 i S = some v) (he : res = (v, w, n)) : Ru g d mi res (pc, L, S, w, n) := by
  subst he
  exact Ru_ret hq hC hr
end Rows2
