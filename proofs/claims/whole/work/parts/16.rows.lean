/-! ===== rules of the small machine: what holds behind a step holds before it ===== -/
def eLe (E E' : aRn) : Prop := ∀ (d k : Nat) (x : aS) (r : Option Value × aW × Nat), E d k x = some r → E' d k x = some r
theorem st1_mono {g : aPg} {E E' : aRn} {d mi mL : Nat} {ini : Bool} {i : Instr} {len : Nat} {x y : aS} (hE : eLe E E') (h : st1 g E d mi mL ini i len x = some y) : st1 g E' d mi mL ini i len x = some y := by
  unfold st1 at h ⊢
  split at h
  next hy => (try rw [hy]); exact h
  next hy =>
    (try rw [hy])
    (try dsimp only)
    split at h
    next hl =>
      (try rw [if_pos hl])
      split at h
      · cases h
      · split at h
        next hL =>
          (try rw [if_pos hL])
          split at h
          next k mL' av rest hs =>
            (try rw [hs])
            (try dsimp only)
            split at h
            next r w' n' he => rw [hE _ _ _ _ he]; exact h
            next => cases h
          next hs => (try rw [hs]); exact h
        next => cases h
    next => cases h
theorem sR_st1 {g : aPg} {E : aRn} {d mi mL : Nat} {ini : Bool} {i : Instr} {len : Nat} {x : aS} {ret : Option FieldType} {v : Option Value} (h : sR ret i x.2.2.1 = some v) : st1 g E d mi mL ini i len x = none := by
  have key : ∀ j : Instr, (j = .ireturn ∨ j = .lreturn ∨ j = .areturn ∨ j = .return_) → st1 g E d mi mL ini j len x = none := by
    rintro j (rfl | rfl | rfl | rfl) <;> (unfold st1; cases d <;> simp [s0, sQ, sA, sB, sI, sJ, sG, sH, sM, sN, sW, sC, sP])
  unfold sR at h
  split at h
  · exact key _ (Or.inl rfl)
  · exact key _ (Or.inr (Or.inl rfl))
  · exact key _ (Or.inr (Or.inr (Or.inl rfl)))
  · exact key _ (Or.inr (Or.inr (Or.inr rfl)))
  · cases h
theorem ex_le1 (g : aPg) : ∀ f : Nat, eLe (ex g f) (ex g (f + 1)) := by
  intro f
  induction f with
  | zero => intro d k x r h; cases h
  | succ f ih =>
    intro d mi x r h
    unfold ex at h ⊢
    split at h
    · cases h
    next hq =>
      (try rw [hq])
      (try dsimp only)
      split at h
      · cases h
      next hpc =>
        (try rw [hpc])
        (try dsimp only)
        split at h
        next hv => (try rw [hv]); exact h
        next hv =>
          (try rw [hv])
          (try dsimp only)
          split at h
          next y hy => rw [st1_mono ih hy]; exact ih _ _ _ _ h
          next => cases h
theorem ex_le (g : aPg) {f f' : Nat} (h : f ≤ f') : eLe (ex g f) (ex g f') := by
  induction h with
  | refl => exact fun _ _ _ _ h => h
  | step _ ih => exact fun d k x r h => ex_le1 g _ d k x r (ih d k x r h)
/-- the method mi, from x on, answers res -/
def Ru (g : aPg) (d mi : Nat) (res : Option Value × aW × Nat) (x : aS) : Prop := ∃ f, ex g f d mi x = some res
/-- what holds behind a step holds before it -/
def Clo (g : aPg) (d mi mL : Nat) (ini : Bool) (V : aS → Prop) : Prop := ∀ (x y : aS) (i : Instr) (len f : Nat), pC g mi x.1 = some (i, len) → st1 g (ex g f) d mi mL ini i len x = some y → V y → V x
theorem Ru_clo {g : aPg} {d mi : Nat} {res : Option Value × aW × Nat} {q : aMI} (hq : pI g mi = some q) : Clo g d mi q.2.2.1 q.2.2.2.2.2.2 (Ru g d mi res) := by
  intro x y i len f hpc hst ⟨f', hy⟩
  refine ⟨max f f' + 1, ?_⟩
  have h1 := st1_mono (ex_le g (Nat.le_max_left f f')) hst
  have h2 := ex_le g (Nat.le_max_right f f') _ _ _ _ hy
  unfold ex
  rw [hq]
  dsimp only
  rw [hpc]
  dsimp only
  have h3 : (if iL i = len then sR q.2.2.2.1 i x.2.2.1 else none) = none := by
    split
    next =>
      cases hr : sR q.2.2.2.1 i x.2.2.1 with
      | none => rfl
      | some v => rw [sR_st1 hr] at h1; cases h1
    next => rfl
  rw [h3]
  dsimp only
  rw [h1]
  exact h2
theorem Ru_ret {g : aPg} {d mi : Nat} {q : aMI} (hq : pI g mi = some q) {pc : Nat} {L : aL} {S : List Value} {w : aW} {n : Nat} {i : Instr} {v : Option Value} (hpc : pC g mi pc = some (i, iL i)) (hr : sR q.2.2.2.1 i S = some v) : Ru g d mi (v, w, n) (pc, L, S, w, n) := by
  refine ⟨1, ?_⟩
  unfold ex
  rw [hq]
  dsimp only
  rw [hpc]
  dsimp only
  rw [if_pos rfl, hr]
section Rows
variable {g : aPg} {d mi mL : Nat} {ini : Bool} {V : aS → Prop} {pc pc' : Nat} {L L' : aL} {S r : List Value} {w : aW} {n : Nat}
theorem r_iconst (hV : Clo g d mi mL ini V) {c : Int} (hC : pC g mi pc = some (.iconst c, 1)) (hp : pc + 1 = pc') (k : V (pc', L, .int (Int32.ofInt c) :: S, w, n)) : V (pc, L, S, w, n) := by
  subst hp
  exact hV _ _ _ _ 0 hC (rfl) k
theorem r_bipush (hV : Clo g d mi mL ini V) {c : Int} (hC : pC g mi pc = some (.bipush c, 2)) (hp : pc + 2 = pc') (k : V (pc', L, .int (Int8.ofInt c).toInt32 :: S, w, n)) : V (pc, L, S, w, n) := by
  subst hp
  exact hV _ _ _ _ 0 hC (rfl) k
theorem r_sipush (hV : Clo g d mi mL ini V) {c : Int} (hC : pC g mi pc = some (.sipush c, 3)) (hp : pc + 3 = pc') (k : V (pc', L, .int (Int16.ofInt c).toInt32 :: S, w, n)) : V (pc, L, S, w, n) := by
  subst hp
  exact hV _ _ _ _ 0 hC (rfl) k
theorem r_lconst (hV : Clo g d mi mL ini V) {c : Fin 2} (hC : pC g mi pc = some (.lconst c, 1)) (hp : pc + 1 = pc') (k : V (pc', L, .long (Int64.ofNat (c : Nat)) :: S, w, n)) : V (pc, L, S, w, n) := by
  subst hp
  exact hV _ _ _ _ 0 hC (rfl) k
theorem r_null (hV : Clo g d mi mL ini V) (hC : pC g mi pc = some (.aconst_null, 1)) (hp : pc + 1 = pc') (k : V (pc', L, .null :: S, w, n)) : V (pc, L, S, w, n) := by
  subst hp
  exact hV _ _ _ _ 0 hC (rfl) k
theorem r_iload_n (hV : Clo g d mi mL ini V) {k0 : Fin 4} {x : Int32} (hC : pC g mi pc = some (.iload_n k0, 1)) (hL : L[(k0 : Nat)]? = some (some (.int x))) (hp : pc + 1 = pc') (k : V (pc', L, .int x :: S, w, n)) : V (pc, L, S, w, n) := by
  subst hp
  exact hV _ _ _ _ 0 hC (by simp [st1, s0, sQ, sA, iL, hL]) k
theorem r_iload (hV : Clo g d mi mL ini V) {k0 : Nat} {x : Int32} (hC : pC g mi pc = some (.iload k0, 2)) (hL : L[k0]? = some (some (.int x))) (hp : pc + 2 = pc') (k : V (pc', L, .int x :: S, w, n)) : V (pc, L, S, w, n) := by
  subst hp
  exact hV _ _ _ _ 0 hC (by simp [st1, s0, sQ, sA, iL, hL]) k
theorem r_lload_n (hV : Clo g d mi mL ini V) {k0 : Fin 4} {x : Int64} (hC : pC g mi pc = some (.lload_n k0, 1)) (hL : L[(k0 : Nat)]? = some (some (.long x))) (hp : pc + 1 = pc') (k : V (pc', L, .long x :: S, w, n)) : V (pc, L, S, w, n) := by
  subst hp
  exact hV _ _ _ _ 0 hC (by simp [st1, s0, sQ, sA, iL, hL]) k
theorem r_lload (hV : Clo g d mi mL ini V) {k0 : Nat} {x : Int64} (hC : pC g mi pc = some (.lload k0, 2)) (hL : L[k0]? = some (some (.long x))) (hp : pc + 2 = pc') (k : V (pc', L, .long x :: S, w, n)) : V (pc, L, S, w, n) := by
  subst hp
  exact hV _ _ _ _ 0 hC (by simp [st1, s0, sQ, sA, iL, hL]) k
theorem r_aload_n (hV : Clo g d mi mL ini V) {k0 : Fin 4} {x : Nat} (hC : pC g mi pc = some (.aload_n k0, 1)) (hL : L[(k0 : Nat)]? = some (some (.ref x))) (hp : pc + 1 = pc') (k : V (pc', L, .ref x :: S, w, n)) : V (pc, L, S, w, n) := by
  subst hp
  exact hV _ _ _ _ 0 hC (by simp [st1, s0, sQ, sA, iL, hL]) k
theorem r_aload (hV : Clo g d mi mL ini V) {k0 : Nat} {x : Nat} (hC : pC g mi pc = some (.aload k0, 2)) (hL : L[k0]? = some (some (.ref x))) (hp : pc + 2 = pc') (k : V (pc', L, .ref x :: S, w, n)) : V (pc, L, S, w, n) := by
  subst hp
  exact hV _ _ _ _ 0 hC (by simp [st1, s0, sQ, sA, iL, hL]) k
theorem r_aloadN_n (hV : Clo g d mi mL ini V) {k0 : Fin 4} (hC : pC g mi pc = some (.aload_n k0, 1)) (hL : L[(k0 : Nat)]? = some (some .null)) (hp : pc + 1 = pc') (k : V (pc', L, .null :: S, w, n)) : V (pc, L, S, w, n) := by
  subst hp
  exact hV _ _ _ _ 0 hC (by simp [st1, s0, sQ, sA, iL, hL]) k
theorem r_dup (hV : Clo g d mi mL ini V) {v : Value} (hC : pC g mi pc = some (.dup, 1)) (hv : v.category = 1) (hp : pc + 1 = pc') (k : V (pc', L, v :: v :: r, w, n)) : V (pc, L, v :: r, w, n) := by
  subst hp
  exact hV _ _ _ _ 0 hC (by simp [st1, s0, sQ, sA, iL, hv]) k
theorem r_pop (hV : Clo g d mi mL ini V) {v : Value} (hC : pC g mi pc = some (.pop, 1)) (hv : v.category = 1) (hp : pc + 1 = pc') (k : V (pc', L, r, w, n)) : V (pc, L, v :: r, w, n) := by
  subst hp
  exact hV _ _ _ _ 0 hC (by simp [st1, s0, sQ, sA, iL, hv]) k
theorem r_dup2 (hV : Clo g d mi mL ini V) {v u : Value} (hC : pC g mi pc = some (.dup2, 1)) (hv : v.category = 1) (hu : u.category = 1) (hp : pc + 1 = pc') (k : V (pc', L, v :: u :: v :: u :: r, w, n)) : V (pc, L, v :: u :: r, w, n) := by
  subst hp
  exact hV _ _ _ _ 0 hC (by simp [st1, s0, sQ, sA, iL, hv, hu]) k
theorem r_istore_n (hV : Clo g d mi mL ini V) {k0 : Fin 4} {x : Int32} (hC : pC g mi pc = some (.istore_n k0, 1)) (hk : (k0 : Nat) < L.length) (hL : aSt1 L (k0 : Nat) (.int x) = L') (hp : pc + 1 = pc') (k : V (pc', L', r, w, n)) : V (pc, L, .int x :: r, w, n) := by
  subst hp
  subst hL
  exact hV _ _ _ _ 0 hC (by simp [st1, s0, sQ, sA, sB, iL, hk]) k
theorem r_istore (hV : Clo g d mi mL ini V) {k0 : Nat} {x : Int32} (hC : pC g mi pc = some (.istore k0, 2)) (hk : k0 < L.length) (hL : aSt1 L k0 (.int x) = L') (hp : pc + 2 = pc') (k : V (pc', L', r, w, n)) : V (pc, L, .int x :: r, w, n) := by
  subst hp
  subst hL
  exact hV _ _ _ _ 0 hC (by simp [st1, s0, sQ, sA, sB, iL, hk]) k
theorem r_lstore_n (hV : Clo g d mi mL ini V) {k0 : Fin 4} {x : Int64} (hC : pC g mi pc = some (.lstore_n k0, 1)) (hk : (k0 : Nat) + 1 < L.length) (hL : aSt2 L (k0 : Nat) (.long x) = L') (hp : pc + 1 = pc') (k : V (pc', L', r, w, n)) : V (pc, L, .long x :: r, w, n) := by
  subst hp
  subst hL
  exact hV _ _ _ _ 0 hC (by simp [st1, s0, sQ, sA, sB, iL, hk]) k
theorem r_lstore (hV : Clo g d mi mL ini V) {k0 : Nat} {x : Int64} (hC : pC g mi pc = some (.lstore k0, 2)) (hk : k0 + 1 < L.length) (hL : aSt2 L k0 (.long x) = L') (hp : pc + 2 = pc') (k : V (pc', L', r, w, n)) : V (pc, L, .long x :: r, w, n) := by
  subst hp
  subst hL
  exact hV _ _ _ _ 0 hC (by simp [st1, s0, sQ, sA, sB, iL, hk]) k
theorem r_astore_n (hV : Clo g d mi mL ini V) {k0 : Fin 4} {x : Nat} (hC : pC g mi pc = some (.astore_n k0, 1)) (hk : (k0 : Nat) < L.length) (hL : aSt1 L (k0 : Nat) (.ref x) = L') (hp : pc + 1 = pc') (k : V (pc', L', r, w, n)) : V (pc, L, .ref x :: r, w, n) := by
  subst hp
  subst hL
  exact hV _ _ _ _ 0 hC (by simp [st1, s0, sQ, sA, sB, iL, hk]) k
theorem r_astore (hV : Clo g d mi mL ini V) {k0 : Nat} {x : Nat} (hC : pC g mi pc = some (.astore k0, 2)) (hk : k0 < L.length) (hL : aSt1 L k0 (.ref x) = L') (hp : pc + 2 = pc') (k : V (pc', L', r, w, n)) : V (pc, L, .ref x :: r, w, n) := by
  subst hp
  subst hL
  exact hV _ _ _ _ 0 hC (by simp [st1, s0, sQ, sA, sB, iL, hk]) k
theorem r_astoreN_n (hV : Clo g d mi mL ini V) {k0 : Fin 4} (hC : pC g mi pc = some (.astore_n k0, 1)) (hk : (k0 : Nat) < L.length) (hL : aSt1 L (k0 : Nat) (.null) = L') (hp : pc + 1 = pc') (k : V (pc', L', r, w, n)) : V (pc, L, .null :: r, w, n) := by
  subst hp
  subst hL
  exact hV _ _ _ _ 0 hC (by simp [st1, s0, sQ, sA, sB, iL, hk]) k
theorem r_astoreN (hV : Clo g d mi mL ini V) {k0 : Nat} (hC : pC g mi pc = some (.astore k0, 2)) (hk : k0 < L.length) (hL : aSt1 L k0 (.null) = L') (hp : pc + 2 = pc') (k : V (pc', L', r, w, n)) : V (pc, L, .null :: r, w, n) := by
  subst hp
  subst hL
  exact hV _ _ _ _ 0 hC (by simp [st1, s0, sQ, sA, sB, iL, hk]) k
theorem r_iinc (hV : Clo g d mi mL ini V) {k0 : Nat} {c : Int} {x : Int32} (hC : pC g mi pc = some (.iinc k0 c, 3)) (hx : L[k0]? = some (some (.int x))) (hL : aSt1 L k0 (.int (x + Int32.ofInt c)) = L') (hp : pc + 3 = pc') (k : V (pc', L', S, w, n)) : V (pc, L, S, w, n) := by
  subst hp
  subst hL
  exact hV _ _ _ _ 0 hC (by simp [st1, s0, sQ, sA, sB, iL, hx]) k
theorem r_iadd (hV : Clo g d mi mL ini V) {x : Int32} {y : Int32} (hC : pC g mi pc = some (.iadd, 1)) (hp : pc + 1 = pc') (k : V (pc', L, .int (x + y) :: r, w, n)) : V (pc, L, .int y :: .int x :: r, w, n) := by
  subst hp
  exact hV _ _ _ _ 0 hC (by simp [st1, s0, sQ, sA, sB, sI, sJ, iL]) k
theorem r_isub (hV : Clo g d mi mL ini V) {x : Int32} {y : Int32} (hC : pC g mi pc = some (.isub, 1)) (hp : pc + 1 = pc') (k : V (pc', L, .int (x - y) :: r, w, n)) : V (pc, L, .int y :: .int x :: r, w, n) := by
  subst hp
  exact hV _ _ _ _ 0 hC (by simp [st1, s0, sQ, sA, sB, sI, sJ, iL]) k
theorem r_imul (hV : Clo g d mi mL ini V) {x : Int32} {y : Int32} (hC : pC g mi pc = some (.imul, 1)) (hp : pc + 1 = pc') (k : V (pc', L, .int (x * y) :: r, w, n)) : V (pc, L, .int y :: .int x :: r, w, n) := by
  subst hp
  exact hV _ _ _ _ 0 hC (by simp [st1, s0, sQ, sA, sB, sI, sJ, iL]) k
theorem r_iand (hV : Clo g d mi mL ini V) {x : Int32} {y : Int32} (hC : pC g mi pc = some (.iand, 1)) (hp : pc + 1 = pc') (k : V (pc', L, .int (x &&& y) :: r, w, n)) : V (pc, L, .int y :: .int x :: r, w, n) := by
  subst hp
  exact hV _ _ _ _ 0 hC (by simp [st1, s0, sQ, sA, sB, sI, sJ, iL]) k
theorem r_ior (hV : Clo g d mi mL ini V) {x : Int32} {y : Int32} (hC : pC g mi pc = some (.ior, 1)) (hp : pc + 1 = pc') (k : V (pc', L, .int (x ||| y) :: r, w, n)) : V (pc, L, .int y :: .int x :: r, w, n) := by
  subst hp
  exact hV _ _ _ _ 0 hC (by simp [st1, s0, sQ, sA, sB, sI, sJ, iL]) k
theorem r_ixor (hV : Clo g d mi mL ini V) {x : Int32} {y : Int32} (hC : pC g mi pc = some (.ixor, 1)) (hp : pc + 1 = pc') (k : V (pc', L, .int (x ^^^ y) :: r, w, n)) : V (pc, L, .int y :: .int x :: r, w, n) := by
  subst hp
  exact hV _ _ _ _ 0 hC (by simp [st1, s0, sQ, sA, sB, sI, sJ, iL]) k
theorem r_ishl (hV : Clo g d mi mL ini V) {x : Int32} {y : Int32} (hC : pC g mi pc = some (.ishl, 1)) (hp : pc + 1 = pc') (k : V (pc', L, .int (x <<< (y &&& 31)) :: r, w, n)) : V (pc, L, .int y :: .int x :: r, w, n) := by
  subst hp
  exact hV _ _ _ _ 0 hC (by simp [st1, s0, sQ, sA, sB, sI, sJ, iL]) k
theorem r_ishr (hV : Clo g d mi mL ini V) {x : Int32} {y : Int32} (hC : pC g mi pc = some (.ishr, 1)) (hp : pc + 1 = pc') (k : V (pc', L, .int (x >>> (y &&& 31)) :: r, w, n)) : V (pc, L, .int y :: .int x :: r, w, n) := by
  subst hp
  exact hV _ _ _ _ 0 hC (by simp [st1, s0, sQ, sA, sB, sI, sJ, iL]) k
theorem r_iushr (hV : Clo g d mi mL ini V) {x : Int32} {y : Int32} (hC : pC g mi pc = some (.iushr, 1)) (hp : pc + 1 = pc') (k : V (pc', L, .int ((x.toUInt32 >>> (y.toUInt32 &&& Int32.toUInt32 31)).toInt32) :: r, w, n)) : V (pc, L, .int y :: .int x :: r, w, n) := by
  subst hp
  exact hV _ _ _ _ 0 hC (by simp [st1, s0, sQ, sA, sB, sI, sJ, iL]) k
theorem r_idiv (hV : Clo g d mi mL ini V) {x : Int32} {y : Int32} (hC : pC g mi pc = some (.idiv, 1)) (hne : ¬ y = 0) (hp : pc + 1 = pc') (k : V (pc', L, .int (x / y) :: r, w, n)) : V (pc, L, .int y :: .int x :: r, w, n) := by
  subst hp
  exact hV _ _ _ _ 0 hC (by simp [st1, s0, sQ, sA, sB, sI, sJ, iL, hne]) k
theorem r_irem (hV : Clo g d mi mL ini V) {x : Int32} {y : Int32} (hC : pC g mi pc = some (.irem, 1)) (hne : ¬ y = 0) (hp : pc + 1 = pc') (k : V (pc', L, .int (x - x / y * y) :: r, w, n)) : V (pc, L, .int y :: .int x :: r, w, n) := by
  subst hp
  exact hV _ _ _ _ 0 hC (by simp [st1, s0, sQ, sA, sB, sI, sJ, iL, hne]) k
theorem r_ladd (hV : Clo g d mi mL ini V) {x : Int64} {y : Int64} (hC : pC g mi pc = some (.ladd, 1)) (hp : pc + 1 = pc') (k : V (pc', L, .long (x + y) :: r, w, n)) : V (pc, L, .long y :: .long x :: r, w, n) := by
  subst hp
  exact hV _ _ _ _ 0 hC (by simp [st1, s0, sQ, sA, sB, sI, sJ, iL]) k
theorem r_lsub (hV : Clo g d mi mL ini V) {x : Int64} {y : Int64} (hC : pC g mi pc = some (.lsub, 1)) (hp : pc + 1 = pc') (k : V (pc', L, .long (x - y) :: r, w, n)) : V (pc, L, .long y :: .long x :: r, w, n) := by
  subst hp
  exact hV _ _ _ _ 0 hC (by simp [st1, s0, sQ, sA, sB, sI, sJ, iL]) k
theorem r_lmul (hV : Clo g d mi mL ini V) {x : Int64} {y : Int64} (hC : pC g mi pc = some (.lmul, 1)) (hp : pc + 1 = pc') (k : V (pc', L, .long (x * y) :: r, w, n)) : V (pc, L, .long y :: .long x :: r, w, n) := by
  subst hp
  exact hV _ _ _ _ 0 hC (by simp [st1, s0, sQ, sA, sB, sI, sJ, iL]) k
theorem r_land (hV : Clo g d mi mL ini V) {x : Int64} {y : Int64} (hC : pC g mi pc = some (.land, 1)) (hp : pc + 1 = pc') (k : V (pc', L, .long (x &&& y) :: r, w, n)) : V (pc, L, .long y :: .long x :: r, w, n) := by
  subst hp
  exact hV _ _ _ _ 0 hC (by simp [st1, s0, sQ, sA, sB, sI, sJ, iL]) k
theorem r_lor (hV : Clo g d mi mL ini V) {x : Int64} {y : Int64} (hC : pC g mi pc = some (.lor, 1)) (hp : pc + 1 = pc') (k : V (pc', L, .long (x ||| y) :: r, w, n)) : V (pc, L, .long y :: .long x :: r, w, n) := by
  subst hp
  exact hV _ _ _ _ 0 hC (by simp [st1, s0, sQ, sA, sB, sI, sJ, iL]) k
theorem r_lxor (hV : Clo g d mi mL ini V) {x : Int64} {y : Int64} (hC : pC g mi pc = some (.lxor, 1)) (hp : pc + 1 = pc') (k : V (pc', L, .long (x ^^^ y) :: r, w, n)) : V (pc, L, .long y :: .long x :: r, w, n) := by
  subst hp
  exact hV _ _ _ _ 0 hC (by simp [st1, s0, sQ, sA, sB, sI, sJ, iL]) k
theorem r_ldiv (hV : Clo g d mi mL ini V) {x : Int64} {y : Int64} (hC : pC g mi pc = some (.ldiv, 1)) (hne : ¬ y = 0) (hp : pc + 1 = pc') (k : V (pc', L, .long (x / y) :: r, w, n)) : V (pc, L, .long y :: .long x :: r, w, n) := by
  subst hp
  exact hV _ _ _ _ 0 hC (by simp [st1, s0, sQ, sA, sB, sI, sJ, iL, hne]) k
theorem r_lrem (hV : Clo g d mi mL ini V) {x : Int64} {y : Int64} (hC : pC g mi pc = some (.lrem, 1)) (hne : ¬ y = 0) (hp : pc + 1 = pc') (k : V (pc', L, .long (x - x / y * y) :: r, w, n)) : V (pc, L, .long y :: .long x :: r, w, n) := by
  subst hp
  exact hV _ _ _ _ 0 hC (by simp [st1, s0, sQ, sA, sB, sI, sJ, iL, hne]) k
theorem r_lshl (hV : Clo g d mi mL ini V) {x : Int64} {y : Int32} (hC : pC g mi pc = some (.lshl, 1)) (hp : pc + 1 = pc') (k : V (pc', L, .long (x <<< (y.toInt64 &&& 63)) :: r, w, n)) : V (pc, L, .int y :: .long x :: r, w, n) := by
  subst hp
  exact hV _ _ _ _ 0 hC (by simp [st1, s0, sQ, sA, sB, sI, sJ, iL]) k
theorem r_lshr (hV : Clo g d mi mL ini V) {x : Int64} {y : Int32} (hC : pC g mi pc = some (.lshr, 1)) (hp : pc + 1 = pc') (k : V (pc', L, .long (x >>> (y.toInt64 &&& 63)) :: r, w, n)) : V (pc, L, .int y :: .long x :: r, w, n) := by
  subst hp
  exact hV _ _ _ _ 0 hC (by simp [st1, s0, sQ, sA, sB, sI, sJ, iL]) k
theorem r_lushr (hV : Clo g d mi mL ini V) {x : Int64} {y : Int32} (hC : pC g mi pc = some (.lushr, 1)) (hp : pc + 1 = pc') (k : V (pc', L, .long ((x.toUInt64 >>> (y.toInt64.toUInt64 &&& Int64.toUInt64 63)).toInt64) :: r, w, n)) : V (pc, L, .int y :: .long x :: r, w, n) := by
  subst hp
  exact hV _ _ _ _ 0 hC (by simp [st1, s0, sQ, sA, sB, sI, sJ, iL]) k
theorem r_ineg (hV : Clo g d mi mL ini V) {x : Int32} (hC : pC g mi pc = some (.ineg, 1)) (hp : pc + 1 = pc') (k : V (pc', L, .int (-x) :: r, w, n)) : V (pc, L, .int x :: r, w, n) := by
  subst hp
  exact hV _ _ _ _ 0 hC (by simp [st1, s0, sQ, sA, sB, sI, sJ, iL]) k
theorem r_i2l (hV : Clo g d mi mL ini V) {x : Int32} (hC : pC g mi pc = some (.i2l, 1)) (hp : pc + 1 = pc') (k : V (pc', L, .long (x.toInt64) :: r, w, n)) : V (pc, L, .int x :: r, w, n) := by
  subst hp
  exact hV _ _ _ _ 0 hC (by simp [st1, s0, sQ, sA, sB, sI, sJ, iL]) k
theorem r_l2i (hV : Clo g d mi mL ini V) {x : Int64} (hC : pC g mi pc = some (.l2i, 1)) (hp : pc + 1 = pc') (k : V (pc', L, .int (x.toInt32) :: r, w, n)) : V (pc, L, .long x :: r, w, n) := by
  subst hp
  exact hV _ _ _ _ 0 hC (by simp [st1, s0, sQ, sA, sB, sI, sJ, iL]) k
theorem r_i2b (hV : Clo g d mi mL ini V) {x : Int32} (hC : pC g mi pc = some (.i2b, 1)) (hp : pc + 1 = pc') (k : V (pc', L, .int (x.toInt8.toInt32) :: r, w, n)) : V (pc, L, .int x :: r, w, n) := by
  subst hp
  exact hV _ _ _ _ 0 hC (by simp [st1, s0, sQ, sA, sB, sI, sJ, iL]) k
theorem r_i2c (hV : Clo g d mi mL ini V) {x : Int32} (hC : pC g mi pc = some (.i2c, 1)) (hp : pc + 1 = pc') (k : V (pc', L, .int ((x.toUInt32 % 65536).toInt32) :: r, w, n)) : V (pc, L, .int x :: r, w, n) := by
  subst hp
  exact hV _ _ _ _ 0 hC (by simp [st1, s0, sQ, sA, sB, sI, sJ, iL]) k
theorem r_lcmp (hV : Clo g d mi mL ini V) {x y : Int64} (hC : pC g mi pc = some (.lcmp, 1)) (hp : pc + 1 = pc') (k : V (pc', L, .int (lg_cmp x y) :: r, w, n)) : V (pc, L, .long y :: .long x :: r, w, n) := by
  subst hp
  exact hV _ _ _ _ 0 hC (by simp [st1, s0, sQ, sA, sB, sI, sJ, iL]) k
theorem r_goto (hV : Clo g d mi mL ini V) {off : Int} (hC : pC g mi pc = some (.goto off, 3)) (h0 : (pc : Int) + off = (pc' : Int)) (k : V (pc', L, S, w, n)) : V (pc, L, S, w, n) := by
  have e1 : aTo pc off L S = some (pc', L, S) := by unfold aTo aTg; rw [if_pos (by omega), h0]; rfl
  exact hV _ _ _ _ 0 hC (by simp [st1, s0, sQ, sA, sB, sI, sJ, sG, iL, e1]) k
theorem aBr_T {pc pc' : Nat} {off : Int} {L : aL} {r : List Value} {c : Prop} [Decidable c] (h0 : (pc : Int) + off = (pc' : Int)) (h : c) : aBr pc off L r c = some (pc', L, r) := by
  unfold aBr aTg
  rw [if_pos (by omega), if_pos h, h0]
  rfl
theorem aBr_F {pc pc' : Nat} {off : Int} {L : aL} {r : List Value} {c : Prop} [Decidable c] (h0 : (pc : Int) + off = (pc' : Int)) (h : ¬ c) : aBr pc off L r c = some (pc + 3, L, r) := by
  unfold aBr aTg
  rw [if_pos (by omega), if_neg h]
theorem r_if_eq (hV : Clo g d mi mL ini V) {x : Int32} {off : Int} {pt pf : Nat} (hC : pC g mi pc = some (.ifCond .eq off, 3)) (h0 : (pc : Int) + off = (pt : Int)) (hp : pc + 3 = pf) (kt : x = 0 → V (pt, L, r, w, n)) (kf : ¬ (x = 0) → V (pf, L, r, w, n)) : V (pc, L, .int x :: r, w, n) := by
  subst hp
  by_cases h : x = 0
  · exact hV _ (pt, L, r, w, n) _ _ 0 hC (by simp only [st1, s0, sQ, sA, sB, sI, sJ, sG, iL, aBr_T h0 h]; rfl) (kt h)
  · exact hV _ (pc + 3, L, r, w, n) _ _ 0 hC (by simp only [st1, s0, sQ, sA, sB, sI, sJ, sG, iL, aBr_F (c := x = 0) h0 h]; rfl) (kf h)
theorem r_icmp_eq (hV : Clo g d mi mL ini V) {x y : Int32} {off : Int} {pt pf : Nat} (hC : pC g mi pc = some (.if_icmp .eq off, 3)) (h0 : (pc : Int) + off = (pt : Int)) (hp : pc + 3 = pf) (kt : x = y → V (pt, L, r, w, n)) (kf : ¬ (x = y) → V (pf, L, r, w, n)) : V (pc, L, .int y :: .int x :: r, w, n) := by
  subst hp
  by_cases h : x = y
  · exact hV _ (pt, L, r, w, n) _ _ 0 hC (by simp only [st1, s0, sQ, sA, sB, sI, sJ, sG, iL, aBr_T h0 h]; rfl) (kt h)
  · exact hV _ (pc + 3, L, r, w, n) _ _ 0 hC (by simp only [st1, s0, sQ, sA, sB, sI, sJ, sG, iL, aBr_F (c := x = y) h0 h]; rfl) (kf h)
theorem r_if_ne (hV : Clo g d mi mL ini V) {x : Int32} {off : Int} {pt pf : Nat} (hC : pC g mi pc = some (.ifCond .ne off, 3)) (h0 : (pc : Int) + off = (pt : Int)) (hp : pc + 3 = pf) (kt : ¬ x = 0 → V (pt, L, r, w, n)) (kf : ¬ (¬ x = 0) → V (pf, L, r, w, n)) : V (pc, L, .int x :: r, w, n) := by
  subst hp
  by_cases h : ¬ x = 0
  · exact hV _ (pt, L, r, w, n) _ _ 0 hC (by simp only [st1, s0, sQ, sA, sB, sI, sJ, sG, iL, aBr_T h0 h]; rfl) (kt h)
  · exact hV _ (pc + 3, L, r, w, n) _ _ 0 hC (by simp only [st1, s0, sQ, sA, sB, sI, sJ, sG, iL, aBr_F (c := ¬ x = 0) h0 h]; rfl) (kf h)
theorem r_icmp_ne (hV : Clo g d mi mL ini V) {x y : Int32} {off : Int} {pt pf : Nat} (hC : pC g mi pc = some (.if_icmp .ne off, 3)) (h0 : (pc : Int) + off = (pt : Int)) (hp : pc + 3 = pf) (kt : ¬ x = y → V (pt, L, r, w, n)) (kf : ¬ (¬ x = y) → V (pf, L, r, w, n)) : V (pc, L, .int y :: .int x :: r, w, n) := by
  subst hp
  by_cases h : ¬ x = y
  · exact hV _ (pt, L, r, w, n) _ _ 0 hC (by simp only [st1, s0, sQ, sA, sB, sI, sJ, sG, iL, aBr_T h0 h]; rfl) (kt h)
  · exact hV _ (pc + 3, L, r, w, n) _ _ 0 hC (by simp only [st1, s0, sQ, sA, sB, sI, sJ, sG, iL, aBr_F (c := ¬ x = y) h0 h]; rfl) (kf h)
theorem r_if_lt (hV : Clo g d mi mL ini V) {x : Int32} {off : Int} {pt pf : Nat} (hC : pC g mi pc = some (.ifCond .lt off, 3)) (h0 : (pc : Int) + off = (pt : Int)) (hp : pc + 3 = pf) (kt : x < 0 → V (pt, L, r, w, n)) (kf : ¬ (x < 0) → V (pf, L, r, w, n)) : V (pc, L, .int x :: r, w, n) := by
  subst hp
  by_cases h : x < 0
  · exact hV _ (pt, L, r, w, n) _ _ 0 hC (by simp only [st1, s0, sQ, sA, sB, sI, sJ, sG, iL, aBr_T h0 h]; rfl) (kt h)
  · exact hV _ (pc + 3, L, r, w, n) _ _ 0 hC (by simp only [st1, s0, sQ, sA, sB, sI, sJ, sG, iL, aBr_F (c := x < 0) h0 h]; rfl) (kf h)
theorem r_icmp_lt (hV : Clo g d mi mL ini V) {x y : Int32} {off : Int} {pt pf : Nat} (hC : pC g mi pc = some (.if_icmp .lt off, 3)) (h0 : (pc : Int) + off = (pt : Int)) (hp : pc + 3 = pf) (kt : x < y → V (pt, L, r, w, n)) (kf : ¬ (x < y) → V (pf, L, r, w, n)) : V (pc, L, .int y :: .int x :: r, w, n) := by
  subst hp
  by_cases h : x < y
  · exact hV _ (pt, L, r, w, n) _ _ 0 hC (by simp only [st1, s0, sQ, sA, sB, sI, sJ, sG, iL, aBr_T h0 h]; rfl) (kt h)
  · exact hV _ (pc + 3, L, r, w, n) _ _ 0 hC (by simp only [st1, s0, sQ, sA, sB, sI, sJ, sG, iL, aBr_F (c := x < y) h0 h]; rfl) (kf h)
theorem r_if_ge (hV : Clo g d mi mL ini V) {x : Int32} {off : Int} {pt pf : Nat} (hC : pC g mi pc = some (.ifCond .ge off, 3)) (h0 : (pc : Int) + off = (pt : Int)) (hp : pc + 3 = pf) (kt : 0 ≤ x → V (pt, L, r, w, n)) (kf : ¬ (0 ≤ x) → V (pf, L, r, w, n)) : V (pc, L, .int x :: r, w, n) := by
  subst hp
  by_cases h : 0 ≤ x
  · exact hV _ (pt, L, r, w, n) _ _ 0 hC (by simp only [st1, s0, sQ, sA, sB, sI, sJ, sG, iL, aBr_T h0 h]; rfl) (kt h)
  · exact hV _ (pc + 3, L, r, w, n) _ _ 0 hC (by simp only [st1, s0, sQ, sA, sB, sI, sJ, sG, iL, aBr_F (c := 0 ≤ x) h0 h]; rfl) (kf h)
theorem r_icmp_ge (hV : Clo g d mi mL ini V) {x y : Int32} {off : Int} {pt pf : Nat} (hC : pC g mi pc = some (.if_icmp .ge off, 3)) (h0 : (pc : Int) + off = (pt : Int)) (hp : pc + 3 = pf) (kt : y ≤ x → V (pt, L, r, w, n)) (kf : ¬ (y ≤ x) → V (pf, L, r, w, n)) : V (pc, L, .int y :: .int x :: r, w, n) := by
  subst hp
  by_cases h : y ≤ x
  · exact hV _ (pt, L, r, w, n) _ _ 0 hC (by simp only [st1, s0, sQ, sA, sB, sI, sJ, sG, iL, aBr_T h0 h]; rfl) (kt h)
  · exact hV _ (pc + 3, L, r, w, n) _ _ 0 hC (by simp only [st1, s0, sQ, sA, sB, sI, sJ, sG, iL, aBr_F (c := y ≤ x) h0 h]; rfl) (kf h)
theorem r_if_gt (hV : Clo g d mi mL ini V) {x : Int32} {off : Int} {pt pf : Nat} (hC : pC g mi pc = some (.ifCond .gt off, 3)) (h0 : (pc : Int) + off = (pt : Int)) (hp : pc + 3 = pf) (kt : 0 < x → V (pt, L, r, w, n)) (kf : ¬ (0 < x) → V (pf, L, r, w, n)) : V (pc, L, .int x :: r, w, n) := by
  subst hp
  by_cases h : 0 < x
  · exact hV _ (pt, L, r, w, n) _ _ 0 hC (by simp only [st1, s0, sQ, sA, sB, sI, sJ, sG, iL, aBr_T h0 h]; rfl) (kt h)
  · exact hV _ (pc + 3, L, r, w, n) _ _ 0 hC (by simp only [st1, s0, sQ, sA, sB, sI, sJ, sG, iL, aBr_F (c := 0 < x) h0 h]; rfl) (kf h)
theorem r_icmp_gt (hV : Clo g d mi mL ini V) {x y : Int32} {off : Int} {pt pf : Nat} (hC : pC g mi pc = some (.if_icmp .gt off, 3)) (h0 : (pc : Int) + off = (pt : Int)) (hp : pc + 3 = pf) (kt : y < x → V (pt, L, r, w, n)) (kf : ¬ (y < x) → V (pf, L, r, w, n)) : V (pc, L, .int y :: .int x :: r, w, n) := by
  subst hp
  by_cases h : y < x
  · exact hV _ (pt, L, r, w, n) _ _ 0 hC (by simp only [st1, s0, sQ, sA, sB, sI, sJ, sG, iL, aBr_T h0 h]; rfl) (kt h)
  · exact hV _ (pc + 3, L, r, w, n) _ _ 0 hC (by simp only [st1, s0, sQ, sA, sB, sI, sJ, sG, iL, aBr_F (c := y < x) h0 h]; rfl) (kf h)
theorem r_if_le (hV : Clo g d mi mL ini V) {x : Int32} {off : Int} {pt pf : Nat} (hC : pC g mi pc = some (.ifCond .le off, 3)) (h0 : (pc : Int) + off = (pt : Int)) (hp : pc + 3 = pf) (kt : x ≤ 0 → V (pt, L, r, w, n)) (kf : ¬ (x ≤ 0) → V (pf, L, r, w, n)) : V (pc, L, .int x :: r, w, n) := by
  subst hp
  by_cases h : x ≤ 0
  · exact hV _ (pt, L, r, w, n) _ _ 0 hC (by simp only [st1, s0, sQ, sA, sB, sI, sJ, sG, iL, aBr_T h0 h]; rfl) (kt h)
  · exact hV _ (pc + 3, L, r, w, n) _ _ 0 hC (by simp only [st1, s0, sQ, sA, sB, sI, sJ, sG, iL, aBr_F (c := x ≤ 0) h0 h]; rfl) (kf h)
theorem r_icmp_le (hV : Clo g d mi mL ini V) {x y : Int32} {off : Int} {pt pf : Nat} (hC : pC g mi pc = some (.if_icmp .le off, 3)) (h0 : (pc : Int) + off = (pt : Int)) (hp : pc + 3 = pf) (kt : x ≤ y → V (pt, L, r, w, n)) (kf : ¬ (x ≤ y) → V (pf, L, r, w, n)) : V (pc, L, .int y :: .int x :: r, w, n) := by
  subst hp
  by_cases h : x ≤ y
  · exact hV _ (pt, L, r, w, n) _ _ 0 hC (by simp only [st1, s0, sQ, sA, sB, sI, sJ, sG, iL, aBr_T h0 h]; rfl) (kt h)
  · exact hV _ (pc + 3, L, r, w, n) _ _ 0 hC (by simp only [st1, s0, sQ, sA, sB, sI, sJ, sG, iL, aBr_F (c := x ≤ y) h0 h]; rfl) (kf h)
theorem r_ifnonnullN (hV : Clo g d mi mL ini V) {off : Int} (hC : pC g mi pc = some (.ifnonnull off, 3)) (hp : pc + 3 = pc') (k : V (pc', L, r, w, n)) : V (pc, L, .null :: r, w, n) := by
  subst hp
  exact hV _ _ _ _ 0 hC (by simp [st1, s0, sQ, sA, sB, sI, sJ, sG, iL]) k
theorem r_ifnonnull (hV : Clo g d mi mL ini V) {off : Int} {a : Nat} (hC : pC g mi pc = some (.ifnonnull off, 3)) (h0 : (pc : Int) + off = (pc' : Int)) (k : V (pc', L, r, w, n)) : V (pc, L, .ref a :: r, w, n) := by
  have e1 : aTo pc off L r = some (pc', L, r) := by unfold aTo aTg; rw [if_pos (by omega), h0]; rfl
  exact hV _ _ _ _ 0 hC (by simp [st1, s0, sQ, sA, sB, sI, sJ, sG, iL, e1]) k
theorem r_sw (hV : Clo g d mi mL ini V) {i : Instr} {len : Nat} {x : Int32} (hC : pC g mi pc = some (i, len)) (hi : ¬ iL i = len) (hs : sW i pc L (.int x :: r) = some (pc', L, r)) (k : V (pc', L, r, w, n)) : V (pc, L, .int x :: r, w, n) := by
  exact hV _ _ _ _ 0 hC (by simp only [st1, s0]; rw [if_neg hi, hs]) k
theorem r_getf (hV : Clo g d mi mL ini V) {idx t ci a : Nat} {kf : Int} {fs : List Value} {v : Value} (hC : pC g mi pc = some (.getfield idx, 3)) (hl : pL g mi idx = some (t, ci, kf)) (ht : t = 0 ∨ t = 6 ∨ t = 10) (hw : w[a]? = some (some (.inr (ci, fs)))) (hf : fs[kf.toNat]? = some v) (hp : pc + 3 = pc') (k : V (pc', L, v :: r, w, n)) : V (pc, L, .ref a :: r, w, n) := by
  subst hp
  have e1 : aFd w a ci kf.toNat = some v := by unfold aFd; rw [hw]; simp [hf]
  rcases ht with rfl | rfl | rfl <;> exact hV _ _ _ _ 0 hC (by simp [st1, s0, sQ, sA, sB, sI, sJ, sG, sH, iL, hl, e1]) k
theorem r_putf (hV : Clo g d mi mL ini V) {idx t ci a : Nat} {kf : Int} {fs : List Value} {v : Value} {w' : aW} (hC : pC g mi pc = some (.putfield idx, 3)) (hl : pL g mi idx = some (t, ci, kf)) (ht : t = 0 ∨ (t = 6 ∧ ini = true)) (hw : w[a]? = some (some (.inr (ci, fs)))) (hf : kf.toNat < fs.length) (ho : okP (pT g ci kf.toNat) v = true) (hw2 : w.set a (some (.inr (ci, fs.set kf.toNat v))) = w') (hp : pc + 3 = pc') (k : V (pc', L, r, w', n)) : V (pc, L, v :: .ref a :: r, w, n) := by
  subst hp
  subst hw2
  have e1 : aPt (pT g) w a ci kf.toNat v = some (w.set a (some (.inr (ci, fs.set kf.toNat v)))) := by unfold aPt; rw [hw]; simp [hf, ho]
  rcases ht with rfl | ⟨rfl, hi⟩
  · exact hV _ _ _ _ 0 hC (by simp [st1, s0, sQ, sA, sB, sI, sJ, sG, sH, sM, iL, hl, e1]) k
  · exact hV _ _ _ _ 0 hC (by simp [st1, s0, sQ, sA, sB, sI, sJ, sG, sH, sM, iL, hl, e1, hi]) k
theorem r_iald (hV : Clo g d mi mL ini V) {a : Nat} {j : Int32} {xs : List Int32} {v : Int32} (hC : pC g mi pc = some (.iaload, 1)) (hw : w[a]? = some (some (.inl (.int, .inl xs)))) (hj : aIx xs j = some v) (hp : pc + 1 = pc') (k : V (pc', L, .int v :: r, w, n)) : V (pc, L, .int j :: .ref a :: r, w, n) := by
  subst hp
  exact hV _ _ _ _ 0 hC (by simp [st1, s0, sQ, sA, sB, sI, sJ, sG, sH, iL, hw, hj]) k
theorem r_zald (hV : Clo g d mi mL ini V) {a : Nat} {j : Int32} {xs : List Int32} {v : Int32} (hC : pC g mi pc = some (.baload, 1)) (hw : w[a]? = some (some (.inl (.boolean, .inl xs)))) (hj : aIx xs j = some v) (hp : pc + 1 = pc') (k : V (pc', L, .int v :: r, w, n)) : V (pc, L, .int j :: .ref a :: r, w, n) := by
  subst hp
  exact hV _ _ _ _ 0 hC (by simp [st1, s0, sQ, sA, sB, sI, sJ, sG, sH, iL, hw, hj]) k
theorem r_cald (hV : Clo g d mi mL ini V) {a : Nat} {j : Int32} {xs : List Int32} {v : Int32} (hC : pC g mi pc = some (.caload, 1)) (hw : w[a]? = some (some (.inl (.char, .inl xs)))) (hj : aIx xs j = some v) (hp : pc + 1 = pc') (k : V (pc', L, .int v :: r, w, n)) : V (pc, L, .int j :: .ref a :: r, w, n) := by
  subst hp
  exact hV _ _ _ _ 0 hC (by simp [st1, s0, sQ, sA, sB, sI, sJ, sG, sH, iL, hw, hj]) k
theorem r_lald (hV : Clo g d mi mL ini V) {a : Nat} {j : Int32} {xs : List Int64} {v : Int64} (hC : pC g mi pc = some (.laload, 1)) (hw : w[a]? = some (some (.inl (.long, .inr (.inl xs))))) (hj : aIx xs j = some v) (hp : pc + 1 = pc') (k : V (pc', L, .long v :: r, w, n)) : V (pc, L, .int j :: .ref a :: r, w, n) := by
  subst hp
  exact hV _ _ _ _ 0 hC (by simp [st1, s0, sQ, sA, sB, sI, sJ, sG, sH, iL, hw, hj]) k
theorem r_aald (hV : Clo g d mi mL ini V) {a : Nat} {j : Int32} {C : String} {xs : List (Option Nat)} {v : Option Nat} (hC : pC g mi pc = some (.aaload, 1)) (hw : w[a]? = some (some (.inl (.object C, .inr (.inr xs))))) (hj : aIx xs j = some v) (ho : C ∈ pO g) (hp : pc + 1 = pc') (k : V (pc', L, va_rf v :: r, w, n)) : V (pc, L, .int j :: .ref a :: r, w, n) := by
  subst hp
  exact hV _ _ _ _ 0 hC (by simp [st1, s0, sQ, sA, sB, sI, sJ, sG, sH, iL, hw, hj, ho]) k
theorem r_ieald (hV : Clo g d mi mL ini V) {a : Nat} {j : Int32} {xs : List Int32} {v : Int32} (hC : pC g mi pc = some (.iaload, 1)) (hw : w[a]? = none) (he : pE g a = some (.inl xs)) (hj : aIx xs j = some v) (hp : pc + 1 = pc') (k : V (pc', L, .int v :: r, w, n)) : V (pc, L, .int j :: .ref a :: r, w, n) := by
  subst hp
  exact hV _ _ _ _ 0 hC (by simp [st1, s0, sQ, sA, sB, sI, sJ, sG, sH, iL, hw, he, hj]) k
theorem r_alen (hV : Clo g d mi mL ini V) {a : Nat} {ty : FieldType} {xs : aA} (hC : pC g mi pc = some (.arraylength, 1)) (hw : w[a]? = some (some (.inl (ty, xs)))) (ht : ty ∈ aTy (pO g)) (hp : pc + 1 = pc') (k : V (pc', L, .int (Int32.ofNat (aLn xs)) :: r, w, n)) : V (pc, L, .ref a :: r, w, n) := by
  subst hp
  exact hV _ _ _ _ 0 hC (by simp [st1, s0, sQ, sA, sB, sI, sJ, sG, sH, iL, hw, ht]) k
theorem r_ealen (hV : Clo g d mi mL ini V) {a : Nat} {xs : List Int32} (hC : pC g mi pc = some (.arraylength, 1)) (hw : w[a]? = none) (he : pE g a = some (.inl xs)) (hp : pc + 1 = pc') (k : V (pc', L, .int (Int32.ofNat xs.length) :: r, w, n)) : V (pc, L, .ref a :: r, w, n) := by
  subst hp
  exact hV _ _ _ _ 0 hC (by simp [st1, s0, sQ, sA, sB, sI, sJ, sG, sH, iL, hw, he]) k
theorem r_gets (hV : Clo g d mi mL ini V) {idx j : Nat} {z : Int} {v : Value} (hC : pC g mi pc = some (.getstatic idx, 3)) (hl : pL g mi idx = some (5, j, z)) (hv : pS g j = some v) (hp : pc + 3 = pc') (k : V (pc', L, v :: S, w, n)) : V (pc, L, S, w, n) := by
  subst hp
  exact hV _ _ _ _ 0 hC (by simp [st1, s0, sQ, sA, sB, sI, sJ, sG, sH, iL, hl, hv]) k
theorem r_ldc (hV : Clo g d mi mL ini V) {idx a : Nat} {z : Int} (hC : pC g mi pc = some (.ldc idx, 2)) (hl : pL g mi idx = some (3, a, z)) (hp : pc + 2 = pc') (k : V (pc', L, .int (Int32.ofInt z) :: S, w, n)) : V (pc, L, S, w, n) := by
  subst hp
  exact hV _ _ _ _ 0 hC (by simp [st1, s0, sQ, sA, sB, sI, sJ, sG, sH, iL, hl]) k
theorem r_ldcw (hV : Clo g d mi mL ini V) {idx a : Nat} {z : Int} (hC : pC g mi pc = some (.ldc_w idx, 3)) (hl : pL g mi idx = some (3, a, z)) (hp : pc + 3 = pc') (k : V (pc', L, .int (Int32.ofInt z) :: S, w, n)) : V (pc, L, S, w, n) := by
  subst hp
  exact hV _ _ _ _ 0 hC (by simp [st1, s0, sQ, sA, sB, sI, sJ, sG, sH, iL, hl]) k
theorem r_ldc2 (hV : Clo g d mi mL ini V) {idx a : Nat} {z : Int} (hC : pC g mi pc = some (.ldc2_w idx, 3)) (hl : pL g mi idx = some (4, a, z)) (hp : pc + 3 = pc') (k : V (pc', L, .long (Int64.ofInt z) :: S, w, n)) : V (pc, L, S, w, n) := by
  subst hp
  exact hV _ _ _ _ 0 hC (by simp [st1, s0, sQ, sA, sB, sI, sJ, sG, sH, iL, hl]) k
theorem r_ldcS (hV : Clo g d mi mL ini V) {idx a : Nat} {z : Int} (hC : pC g mi pc = some (.ldc idx, 2)) (hl : pL g mi idx = some (11, a, z)) (hp : pc + 2 = pc') (k : V (pc', L, .ref a :: S, w, n)) : V (pc, L, S, w, n) := by
  subst hp
  exact hV _ _ _ _ 0 hC (by simp [st1, s0, sQ, sA, sB, sI, sJ, sG, sH, iL, hl]) k
theorem r_iast (hV : Clo g d mi mL ini V) {a : Nat} {j y : Int32} {xs : List Int32} {w' : aW} (hC : pC g mi pc = some (.iastore, 1)) (hw : w[a]? = some (some (.inl (.int, .inl xs)))) (hj : ¬ (j < 0 ∨ xs.length ≤ j.toNatClampNeg)) (hw2 : w.set a (some (.inl (.int, .inl (xs.set j.toNatClampNeg y)))) = w') (hp : pc + 1 = pc') (k : V (pc', L, r, w', n)) : V (pc, L, .int y :: .int j :: .ref a :: r, w, n) := by
  subst hp
  subst hw2
  exact hV _ _ _ _ 0 hC (by simp only [st1, s0, sQ, sA, sB, sI, sJ, sG, sH, sM, iL, hw, if_neg hj]; rfl) k
theorem r_zast (hV : Clo g d mi mL ini V) {a : Nat} {j y : Int32} {xs : List Int32} {w' : aW} (hC : pC g mi pc = some (.bastore, 1)) (hw : w[a]? = some (some (.inl (.boolean, .inl xs)))) (hj : ¬ (j < 0 ∨ xs.length ≤ j.toNatClampNeg)) (hw2 : w.set a (some (.inl (.boolean, .inl (xs.set j.toNatClampNeg (y &&& 1))))) = w') (hp : pc + 1 = pc') (k : V (pc', L, r, w', n)) : V (pc, L, .int y :: .int j :: .ref a :: r, w, n) := by
  subst hp
  subst hw2
  exact hV _ _ _ _ 0 hC (by simp only [st1, s0, sQ, sA, sB, sI, sJ, sG, sH, sM, iL, hw, if_neg hj]; rfl) k
theorem r_cast (hV : Clo g d mi mL ini V) {a : Nat} {j y : Int32} {xs : List Int32} {w' : aW} (hC : pC g mi pc = some (.castore, 1)) (hw : w[a]? = some (some (.inl (.char, .inl xs)))) (hj : ¬ (j < 0 ∨ xs.length ≤ j.toNatClampNeg)) (hw2 : w.set a (some (.inl (.char, .inl (xs.set j.toNatClampNeg (y.toUInt32.toUInt16.toUInt32.toInt32))))) = w') (hp : pc + 1 = pc') (k : V (pc', L, r, w', n)) : V (pc, L, .int y :: .int j :: .ref a :: r, w, n) := by
  subst hp
  subst hw2
  exact hV _ _ _ _ 0 hC (by simp only [st1, s0, sQ, sA, sB, sI, sJ, sG, sH, sM, iL, hw, if_neg hj]; rfl) k
theorem r_last (hV : Clo g d mi mL ini V) {a : Nat} {j : Int32} {y : Int64} {xs : List Int64} {w' : aW} (hC : pC g mi pc = some (.lastore, 1)) (hw : w[a]? = some (some (.inl (.long, .inr (.inl xs))))) (hj : ¬ (j < 0 ∨ xs.length ≤ j.toNatClampNeg)) (hw2 : w.set a (some (.inl (.long, .inr (.inl (xs.set j.toNatClampNeg y))))) = w') (hp : pc + 1 = pc') (k : V (pc', L, r, w', n)) : V (pc, L, .long y :: .int j :: .ref a :: r, w, n) := by
  subst hp
  subst hw2
  exact hV _ _ _ _ 0 hC (by simp only [st1, s0, sQ, sA, sB, sI, sJ, sG, sH, sM, iL, hw, if_neg hj]; rfl) k
/-- a call, by what the callee answers -/
theorem r_call (hV : Clo g (d + 1) mi mL ini V) {i : Instr} {k mL' : Nat} {av rest : List Value} {v : Option Value} {w' : aW} {n' : Nat} {S' : List Value} (hC : pC g mi pc = some (i, 3)) (h3 : iL i = 3) (hL : L.length = mL) (h0 : s0 g mi ini i 3 (pc, L, S, w, n) = none) (hc : sC g mi i (pc, L, S, w, n) = some (k, mL', av, rest)) (hr : Ru g d k (v, w', n') (0, aEnt mL' av, [], w, n)) (hS : v.toList ++ rest = S') (hp : pc + 3 = pc') (kk : V (pc', L, S', w', n')) : V (pc, L, S, w, n) := by
  subst hp
  subst hS
  obtain ⟨f, hf⟩ := hr
  refine hV _ _ _ _ f hC ?_ kk
  unfold st1
  rw [h0]
  dsimp only
  rw [if_pos h3, if_pos hL, hc]
  dsimp only
  rw [hf]
end Rows
