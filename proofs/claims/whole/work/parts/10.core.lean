/-! ===== the small machine: a state of ids, locals as a list, a stack, a world of cells by their numbers ===== -/
abbrev aL : Type := List (Option Value)
abbrev aA : Type := List Int32 ⊕ List Int64 ⊕ List (Option Nat)
abbrev aC : Type := (FieldType × aA) ⊕ (Nat × List Value)
abbrev aW : Type := List (Option aC)
/-- an id as an address -/
def cV (ad : Nat → Nat) : Value → Value
  | .ref i => .ref (ad i)
  | .int x => .int x
  | .long x => .long x
  | .float x => .float x
  | .double x => .double x
  | .null => .null
  | .retAddr x => .retAddr x
theorem cV_cat (ad : Nat → Nat) (v : Value) : (cV ad v).category = v.category := by cases v <;> rfl
theorem cS_cat (ad : Nat → Nat) (S : List Value) : ((S.map (cV ad)).map fun v => v.category).sum = (S.map fun v => v.category).sum := by
  rw [List.map_map]
  congr 1
  exact List.map_congr_left fun v _ => cV_cat ad v
/-- the locals hold the list -/
def aHas (ad : Nat → Nat) (ls : Array Slot) (L : aL) : Prop := ls.size = L.length ∧ lv_wf ls ∧ ∀ (i : Nat) (v : Value), L[i]? = some (some v) → ls[i]? = some (.val (cV ad v))
def aPl (ad : Nat → Nat) (L : aL) : List (Nat × Value) := (List.range L.length).filterMap fun i => match L[i]? with
  | some (some v) => some (i, cV ad v)
  | _ => none
theorem aPl_mem {ad : Nat → Nat} {L : aL} {q : Nat × Value} : q ∈ aPl ad L ↔ ∃ v, L[q.1]? = some (some v) ∧ q.2 = cV ad v := by
  unfold aPl
  rw [List.mem_filterMap]
  constructor
  · rintro ⟨i, -, h⟩
    split at h
    next v hv => cases h; exact ⟨v, hv, rfl⟩
    next => cases h
  · rintro ⟨v, h1, h2⟩
    refine ⟨q.1, List.mem_range.mpr (List.getElem?_eq_some_iff.mp h1).1, ?_⟩
    rw [h1]
    show some (q.1, cV ad v) = some q
    rw [← h2]
theorem aHas.lv {ad : Nat → Nat} {ls : Array Slot} {L : aL} (h : aHas ad ls L) : lv_has ls L.length (aPl ad L) := by
  refine ⟨h.1, h.2.1, fun q hq => ?_⟩
  obtain ⟨v, h1, h2⟩ := aPl_mem.mp hq
  rw [h2]
  exact h.2.2 q.1 v h1
theorem aHas.at {ad : Nat → Nat} {ls : Array Slot} {L : aL} (h : aHas ad ls L) {i : Nat} {v : Value} (hv : L[i]? = some (some v)) : ls[i]? = some (.val (cV ad v)) := h.2.2 i v hv
/-- a long that ends at i is no longer there -/
def aKl (L : aL) (i : Nat) : aL := match i with
  | 0 => L
  | j + 1 => match L[j]? with
    | some (some (.long _)) => L.set j none
    | some (some (.double _)) => L.set j none
    | _ => L
theorem aKl_len (L : aL) (i : Nat) : (aKl L i).length = L.length := by
  unfold aKl
  split
  · rfl
  · split <;> simp
theorem aKl_at {L : aL} {i j : Nat} {v : Value} (h : (aKl L i)[j]? = some (some v)) : L[j]? = some (some v) ∧ ¬ (j + 1 = i ∧ v.category = 2) := by
  have key : ∀ (k : Nat), i = k + 1 → (L.set k none)[j]? = some (some v) → L[j]? = some (some v) ∧ ¬ (j + 1 = i ∧ v.category = 2) := by
    intro k hk hj
    by_cases e : k = j
    · subst e
      rw [List.getElem?_set] at hj
      simp at hj
    · rw [List.getElem?_set_ne e] at hj
      exact ⟨hj, fun q => e (by omega)⟩
  unfold aKl at h
  split at h
  · exact ⟨h, fun q => by omega⟩
  · next k =>
    split at h
    next => exact key k rfl h
    next => exact key k rfl h
    next n1 n2 =>
      refine ⟨h, fun q => ?_⟩
      obtain ⟨q1, q2⟩ := q
      have hk : j = k := by omega
      subst hk
      cases v with
      | long x => exact n1 x h
      | double x => exact n2 x h
      | _ => simp [Value.category] at q2
def aSt1 (L : aL) (i : Nat) (v : Value) : aL := (aKl L i).set i (some v)
def aSt2 (L : aL) (i : Nat) (v : Value) : aL := ((aKl L i).set (i + 1) none).set i (some v)
theorem aSt1_len (L : aL) (i : Nat) (v : Value) : (aSt1 L i v).length = L.length := by simp [aSt1, aKl_len]
theorem aSt2_len (L : aL) (i : Nat) (v : Value) : (aSt2 L i v).length = L.length := by simp [aSt2, aKl_len]
theorem aSt1_ok {ad : Nat → Nat} {ls' : Array Slot} {L : aL} {i : Nat} {v : Value} (h : lv_has ls' L.length ((i, cV ad v) :: (aPl ad L).filter (fun q => !(q.1 == i) && !(q.1 + 1 == i && q.2.category == 2)))) : aHas ad ls' (aSt1 L i v) := by
  refine ⟨by rw [h.1, aSt1_len], h.2.1, fun j u hj => ?_⟩
  unfold aSt1 at hj
  by_cases e : i = j
  · subst e
    rw [List.getElem?_set] at hj
    simp only [if_true] at hj
    split at hj
    next => cases hj; exact h.2.2 (i, cV ad v) List.mem_cons_self
    next => cases hj
  · rw [List.getElem?_set_ne e] at hj
    obtain ⟨h1, h2⟩ := aKl_at hj
    refine h.2.2 (j, cV ad u) (List.mem_cons_of_mem _ (List.mem_filter.mpr ⟨aPl_mem.mpr ⟨u, h1, rfl⟩, ?_⟩))
    have e1 : (j == i) = false := by simpa using Ne.symm e
    by_cases e2 : j + 1 = i
    · have e3 : (cV ad u).category ≠ 2 := by rw [cV_cat]; exact fun z => h2 ⟨e2, z⟩
      simp [e1, e3]
    · simp [e1, e2]
theorem aSt2_ok {ad : Nat → Nat} {ls' : Array Slot} {L : aL} {i : Nat} {v : Value} (h : lv_has ls' L.length ((i, cV ad v) :: (aPl ad L).filter (fun q => !(q.1 == i) && (!(q.1 == i + 1) && !(q.1 + 1 == i && q.2.category == 2))))) : aHas ad ls' (aSt2 L i v) := by
  refine ⟨by rw [h.1, aSt2_len], h.2.1, fun j u hj => ?_⟩
  unfold aSt2 at hj
  by_cases e : i = j
  · subst e
    rw [List.getElem?_set] at hj
    simp only [if_true] at hj
    split at hj
    next => cases hj; exact h.2.2 (i, cV ad v) List.mem_cons_self
    next => cases hj
  · rw [List.getElem?_set_ne e] at hj
    by_cases e0 : i + 1 = j
    · subst e0
      rw [List.getElem?_set] at hj
      simp at hj
    · rw [List.getElem?_set_ne e0] at hj
      obtain ⟨h1, h2⟩ := aKl_at hj
      refine h.2.2 (j, cV ad u) (List.mem_cons_of_mem _ (List.mem_filter.mpr ⟨aPl_mem.mpr ⟨u, h1, rfl⟩, ?_⟩))
      have e1 : (j == i) = false := by simpa using Ne.symm e
      have e4 : (j == i + 1) = false := by simpa using Ne.symm e0
      by_cases e2 : j + 1 = i
      · have e3 : (cV ad u).category ≠ 2 := by rw [cV_cat]; exact fun z => h2 ⟨e2, z⟩
        simp [e1, e4, e3]
      · simp [e1, e4, e2]
/-- lengths of the instructions that are taken -/
def iL : Instr → Nat
  | .bipush _ => 2 | .sipush _ => 3 | .iload _ => 2 | .lload _ => 2 | .aload _ => 2 | .istore _ => 2 | .lstore _ => 2 | .astore _ => 2 | .iinc _ _ => 3
  | .ifCond _ _ => 3 | .if_icmp _ _ => 3 | .goto _ => 3 | .ifnull _ => 3 | .ifnonnull _ => 3
  | .getfield _ => 3 | .putfield _ => 3 | .getstatic _ => 3 | .new _ => 3 | .newarray _ => 2 | .anewarray _ => 3 | .ldc _ => 2 | .ldc_w _ => 3 | .ldc2_w _ => 3
  | .invokevirtual _ => 3 | .invokespecial _ => 3 | .invokestatic _ => 3
  | _ => 1
abbrev aX : Type := Nat × aL × List Value
/-- constants, loads, the stack -/
def sA (i : Instr) (pc : Nat) (L : aL) (S : List Value) : Option aX := match i with
  | .iconst n => some (pc + 1, L, .int (Int32.ofInt n) :: S)
  | .bipush n => some (pc + 2, L, .int (Int8.ofInt n).toInt32 :: S)
  | .sipush n => some (pc + 3, L, .int (Int16.ofInt n).toInt32 :: S)
  | .lconst n => some (pc + 1, L, .long (Int64.ofNat (n : Nat)) :: S)
  | .aconst_null => some (pc + 1, L, .null :: S)
  | .iload_n k => match L[(k : Nat)]? with
    | some (some (.int x)) => some (pc + 1, L, .int x :: S)
    | _ => none
  | .iload k => match L[k]? with
    | some (some (.int x)) => some (pc + 2, L, .int x :: S)
    | _ => none
  | .lload_n k => match L[(k : Nat)]? with
    | some (some (.long x)) => some (pc + 1, L, .long x :: S)
    | _ => none
  | .lload k => match L[k]? with
    | some (some (.long x)) => some (pc + 2, L, .long x :: S)
    | _ => none
  | .aload_n k => match L[(k : Nat)]? with
    | some (some (.ref x)) => some (pc + 1, L, .ref x :: S)
    | some (some .null) => some (pc + 1, L, .null :: S)
    | _ => none
  | .aload k => match L[k]? with
    | some (some (.ref x)) => some (pc + 2, L, .ref x :: S)
    | some (some .null) => some (pc + 2, L, .null :: S)
    | _ => none
  | .dup => match S with
    | v :: r => if v.category = 1 then some (pc + 1, L, v :: v :: r) else none
    | _ => none
  | .pop => match S with
    | v :: r => if v.category = 1 then some (pc + 1, L, r) else none
    | _ => none
  | .dup_x1 => match S with
    | v :: u :: r => if v.category = 1 ∧ u.category = 1 then some (pc + 1, L, v :: u :: v :: r) else none
    | _ => none
  | .dup2 => match S with
    | v :: u :: r => if v.category = 1 ∧ u.category = 1 then some (pc + 1, L, v :: u :: v :: u :: r) else none
    | _ => none
  | _ => none
/-- stores -/
def sB (i : Instr) (pc : Nat) (L : aL) (S : List Value) : Option aX := match i with
  | .istore_n k => match S with
    | .int x :: r => if (k : Nat) < L.length then some (pc + 1, aSt1 L k (.int x), r) else none
    | _ => none
  | .istore k => match S with
    | .int x :: r => if k < L.length then some (pc + 2, aSt1 L k (.int x), r) else none
    | _ => none
  | .lstore_n k => match S with
    | .long x :: r => if (k : Nat) + 1 < L.length then some (pc + 1, aSt2 L k (.long x), r) else none
    | _ => none
  | .lstore k => match S with
    | .long x :: r => if k + 1 < L.length then some (pc + 2, aSt2 L k (.long x), r) else none
    | _ => none
  | .astore_n k => match S with
    | .ref x :: r => if (k : Nat) < L.length then some (pc + 1, aSt1 L k (.ref x), r) else none
    | .null :: r => if (k : Nat) < L.length then some (pc + 1, aSt1 L k .null, r) else none
    | _ => none
  | .astore k => match S with
    | .ref x :: r => if k < L.length then some (pc + 2, aSt1 L k (.ref x), r) else none
    | .null :: r => if k < L.length then some (pc + 2, aSt1 L k .null, r) else none
    | _ => none
  | .iinc k n => match L[k]? with
    | some (some (.int x)) => some (pc + 3, aSt1 L k (.int (x + Int32.ofInt n)), S)
    | _ => none
  | _ => none
/-- arithmetic on ints -/
def sI (i : Instr) (pc : Nat) (L : aL) (S : List Value) : Option aX := match i with
  | .iadd => match S with
    | .int y :: .int x :: r => some (pc + 1, L, .int (x + y) :: r)
    | _ => none
  | .isub => match S with
    | .int y :: .int x :: r => some (pc + 1, L, .int (x - y) :: r)
    | _ => none
  | .imul => match S with
    | .int y :: .int x :: r => some (pc + 1, L, .int (x * y) :: r)
    | _ => none
  | .iand => match S with
    | .int y :: .int x :: r => some (pc + 1, L, .int (x &&& y) :: r)
    | _ => none
  | .ior => match S with
    | .int y :: .int x :: r => some (pc + 1, L, .int (x ||| y) :: r)
    | _ => none
  | .ixor => match S with
    | .int y :: .int x :: r => some (pc + 1, L, .int (x ^^^ y) :: r)
    | _ => none
  | .idiv => match S with
    | .int y :: .int x :: r => if y = 0 then none else some (pc + 1, L, .int (x / y) :: r)
    | _ => none
  | .irem => match S with
    | .int y :: .int x :: r => if y = 0 then none else some (pc + 1, L, .int (x - x / y * y) :: r)
    | _ => none
  | .ineg => match S with
    | .int x :: r => some (pc + 1, L, .int (-x) :: r)
    | _ => none
  | .ishl => match S with
    | .int y :: .int x :: r => some (pc + 1, L, .int (x <<< (y &&& 31)) :: r)
    | _ => none
  | .ishr => match S with
    | .int y :: .int x :: r => some (pc + 1, L, .int (x >>> (y &&& 31)) :: r)
    | _ => none
  | .iushr => match S with
    | .int y :: .int x :: r => some (pc + 1, L, .int (x.toUInt32 >>> (y.toUInt32 &&& Int32.toUInt32 31)).toInt32 :: r)
    | _ => none
  | .i2l => match S with
    | .int x :: r => some (pc + 1, L, .long x.toInt64 :: r)
    | _ => none
  | .i2b => match S with
    | .int x :: r => some (pc + 1, L, .int x.toInt8.toInt32 :: r)
    | _ => none
  | .i2c => match S with
    | .int x :: r => some (pc + 1, L, .int (x.toUInt32 % 65536).toInt32 :: r)
    | _ => none
  | _ => none
/-- arithmetic on longs -/
def sJ (i : Instr) (pc : Nat) (L : aL) (S : List Value) : Option aX := match i with
  | .ladd => match S with
    | .long y :: .long x :: r => some (pc + 1, L, .long (x + y) :: r)
    | _ => none
  | .lsub => match S with
    | .long y :: .long x :: r => some (pc + 1, L, .long (x - y) :: r)
    | _ => none
  | .lmul => match S with
    | .long y :: .long x :: r => some (pc + 1, L, .long (x * y) :: r)
    | _ => none
  | .land => match S with
    | .long y :: .long x :: r => some (pc + 1, L, .long (x &&& y) :: r)
    | _ => none
  | .lor => match S with
    | .long y :: .long x :: r => some (pc + 1, L, .long (x ||| y) :: r)
    | _ => none
  | .lxor => match S with
    | .long y :: .long x :: r => some (pc + 1, L, .long (x ^^^ y) :: r)
    | _ => none
  | .ldiv => match S with
    | .long y :: .long x :: r => if y = 0 then none else some (pc + 1, L, .long (x / y) :: r)
    | _ => none
  | .lrem => match S with
    | .long y :: .long x :: r => if y = 0 then none else some (pc + 1, L, .long (x - x / y * y) :: r)
    | _ => none
  | .lushr => match S with
    | .int y :: .long x :: r => some (pc + 1, L, .long (x.toUInt64 >>> (y.toInt64.toUInt64 &&& Int64.toUInt64 63)).toInt64 :: r)
    | _ => none
  | .lshl => match S with
    | .int y :: .long x :: r => some (pc + 1, L, .long (x <<< (y.toInt64 &&& 63)) :: r)
    | _ => none
  | .lshr => match S with
    | .int y :: .long x :: r => some (pc + 1, L, .long (x >>> (y.toInt64 &&& 63)) :: r)
    | _ => none
  | .l2i => match S with
    | .long x :: r => some (pc + 1, L, .int x.toInt32 :: r)
    | _ => none
  | .lcmp => match S with
    | .long y :: .long x :: r => some (pc + 1, L, .int (lg_cmp x y) :: r)
    | _ => none
  | _ => none
/-- where a jump goes -/
def aTg (pc : Nat) (off : Int) : Nat := ((pc : Int) + off).toNat
def aTo (pc : Nat) (off : Int) (L : aL) (r : List Value) : Option aX := if 0 ≤ (pc : Int) + off then some (aTg pc off, L, r) else none
theorem aTo_ok {pc : Nat} {off : Int} {L : aL} {r : List Value} {x : aX} (h : aTo pc off L r = some x) : x = (aTg pc off, L, r) ∧ (pc : Int) + off = (aTg pc off : Int) := by
  unfold aTo at h
  split at h
  next q => cases h; exact ⟨rfl, by unfold aTg; omega⟩
  next => cases h
/-- a branch: where it goes must lie in the code whether or not it's taken -/
def aBr (pc : Nat) (off : Int) (L : aL) (r : List Value) (cnd : Prop) [Decidable cnd] : Option aX := if 0 ≤ (pc : Int) + off then (if cnd then some (aTg pc off, L, r) else some (pc + 3, L, r)) else none
theorem aBr_ok {pc : Nat} {off : Int} {L : aL} {r : List Value} {cnd : Prop} [Decidable cnd] {x : aX} (h : aBr pc off L r cnd = some x) : (pc : Int) + off = (aTg pc off : Int) ∧ ((cnd ∧ x = (aTg pc off, L, r)) ∨ (¬ cnd ∧ x = (pc + 3, L, r))) := by
  unfold aBr at h
  split at h
  next q =>
    refine ⟨by unfold aTg; omega, ?_⟩
    split at h
    next z => cases h; exact Or.inl ⟨z, rfl⟩
    next z => cases h; exact Or.inr ⟨z, rfl⟩
  next => cases h
/-- branches -/
def sG (i : Instr) (pc : Nat) (L : aL) (S : List Value) : Option aX := match i with
  | .goto off => aTo pc off L S
  | .ifCond .eq off => match S with
    | .int x :: r => aBr pc off L r (x = 0)
    | _ => none
  | .ifCond .ne off => match S with
    | .int x :: r => aBr pc off L r (¬ x = 0)
    | _ => none
  | .ifCond .lt off => match S with
    | .int x :: r => aBr pc off L r (x < 0)
    | _ => none
  | .ifCond .ge off => match S with
    | .int x :: r => aBr pc off L r (0 ≤ x)
    | _ => none
  | .ifCond .gt off => match S with
    | .int x :: r => aBr pc off L r (0 < x)
    | _ => none
  | .ifCond .le off => match S with
    | .int x :: r => aBr pc off L r (x ≤ 0)
    | _ => none
  | .if_icmp .eq off => match S with
    | .int y :: .int x :: r => aBr pc off L r (x = y)
    | _ => none
  | .if_icmp .ne off => match S with
    | .int y :: .int x :: r => aBr pc off L r (¬ x = y)
    | _ => none
  | .if_icmp .lt off => match S with
    | .int y :: .int x :: r => aBr pc off L r (x < y)
    | _ => none
  | .if_icmp .ge off => match S with
    | .int y :: .int x :: r => aBr pc off L r (y ≤ x)
    | _ => none
  | .if_icmp .gt off => match S with
    | .int y :: .int x :: r => aBr pc off L r (y < x)
    | _ => none
  | .if_icmp .le off => match S with
    | .int y :: .int x :: r => aBr pc off L r (x ≤ y)
    | _ => none
  | .ifnull off => match S with
    | .null :: r => aTo pc off L r
    | .ref _ :: r => some (pc + 3, L, r)
    | _ => none
  | .ifnonnull off => match S with
    | .null :: r => some (pc + 3, L, r)
    | .ref _ :: r => aTo pc off L r
    | _ => none
  | _ => none
/-- switches: their length is whatever it is -/
def sW (i : Instr) (pc : Nat) (L : aL) (S : List Value) : Option aX := match i with
  | .tableswitch d lo hi offs => match S with
    | .int x :: r => if x.toInt < lo ∨ hi < x.toInt then aTo pc d L r else match offs[(x.toInt - lo).toNat]? with
      | some off => aTo pc off L r
      | none => none
    | _ => none
  | .lookupswitch d ps => match S with
    | .int x :: r => if (ps.toList.zip (ps.toList.drop 1)).all (fun (a, next) => a.1 < next.1) = true then aTo pc (Op.lookupswitch.offset ps.toList d x.toInt) L r else none
    | _ => none
  | _ => none
section aRows
variable {p : Program} {l : Launch} {e : Env} {R : Room} {s : State} {m : MethodId} {args : Array Value} {below : List Frame} {meth : Method} {c : Code} {H : Heap} {locs : List Loc} {cells slots : Nat} {Q : State → Prop}
variable {cc : ByteArray} {pc : Nat} {ls : Array Slot} {ad : Nat → Nat} {L : aL} {S : List Value} {i : Instr} {x : aX}
theorem sA_ok (hexec : p.tables.exec = Jvm.exec) (hb : c.code = cc) (hdg : decode cc pc = .ok (i, iL i)) (hl : aHas ad ls L) (h : sA i pc L S = some x) (kk : ∀ ls : Array Slot, aHas ad ls x.2.1 → W p l e R s m args below meth c H locs cells slots Q (F0 m x.1 ls (x.2.2.map (cV ad)))) : W p l e R s m args below meth c H locs cells slots Q (F0 m pc ls (S.map (cV ad))) := by
  unfold sA at h
  split at h
  · cases h; exact lv_iconst hexec hb hdg rfl (kk ls hl)
  · cases h; exact lv_bipush hexec hb hdg rfl (kk ls hl)
  · cases h; exact lv_sipush hexec hb hdg rfl (kk ls hl)
  · cases h; exact lv_lconst hexec hb hdg rfl (kk ls hl)
  · cases h; exact lv_null hexec hb hdg (kk ls hl)
  · split at h
    next y hy => cases h; exact lv_iload_n hexec hb hdg rfl (hl.at hy) (kk ls hl)
    next => cases h
  · split at h
    next y hy => cases h; exact lv_iload hexec hb hdg (hl.at hy) (kk ls hl)
    next => cases h
  · split at h
    next y hy => cases h; exact lv_lload_n hexec hb hdg rfl (hl.at hy) (kk ls hl)
    next => cases h
  · split at h
    next y hy => cases h; exact lv_lload hexec hb hdg (hl.at hy) (kk ls hl)
    next => cases h
  · split at h
    next y hy => cases h; exact lv_aload_n hexec hb hdg rfl (hl.at hy) (kk ls hl)
    next hy => cases h; exact lv_aload_nN hexec hb hdg rfl (hl.at hy) (kk ls hl)
    next => cases h
  · split at h
    next y hy => cases h; exact lv_aload hexec hb hdg (hl.at hy) (kk ls hl)
    next hy => cases h; exact lv_aloadN hexec hb hdg (hl.at hy) (kk ls hl)
    next => cases h
  · split at h
    next v r =>
      split at h
      next q => cases h; exact lv_dup hexec hb hdg (by rw [cV_cat]; exact q) (kk ls hl)
      next => cases h
    next => cases h
  · split at h
    next v r =>
      split at h
      next q => cases h; exact lv_pop hexec hb hdg (by rw [cV_cat]; exact q) (kk ls hl)
      next => cases h
    next => cases h
  · split at h
    next v u r =>
      split at h
      next q => cases h; exact lv_dup_x1 hexec hb hdg (by rw [cV_cat]; exact q.1) (by rw [cV_cat]; exact q.2) (kk ls hl)
      next => cases h
    next => cases h
  · split at h
    next v u r =>
      split at h
      next q => cases h; exact lv_dup2_11 hexec hb hdg (by rw [cV_cat]; exact q.1) (by rw [cV_cat]; exact q.2) (kk ls hl)
      next => cases h
    next => cases h
  · cases h
theorem sB_ok (hexec : p.tables.exec = Jvm.exec) (hb : c.code = cc) (hdg : decode cc pc = .ok (i, iL i)) (hl : aHas ad ls L) (h : sB i pc L S = some x) (kk : ∀ ls : Array Slot, aHas ad ls x.2.1 → W p l e R s m args below meth c H locs cells slots Q (F0 m x.1 ls (x.2.2.map (cV ad)))) : W p l e R s m args below meth c H locs cells slots Q (F0 m pc ls (S.map (cV ad))) := by
  unfold sB at h
  split at h
  · split at h
    next v r =>
      split at h
      next q => cases h; exact lv_istore_n hexec hb hdg rfl hl.lv q rfl (fun ls' h' => kk ls' (aSt1_ok h'))
      next => cases h
    next => cases h
  · split at h
    next v r =>
      split at h
      next q => cases h; exact lv_istore hexec hb hdg hl.lv q rfl (fun ls' h' => kk ls' (aSt1_ok h'))
      next => cases h
    next => cases h
  · split at h
    next v r =>
      split at h
      next q => cases h; exact lv_lstore_n hexec hb hdg rfl hl.lv q rfl (fun ls' h' => kk ls' (aSt2_ok h'))
      next => cases h
    next => cases h
  · split at h
    next v r =>
      split at h
      next q => cases h; exact lv_lstore hexec hb hdg hl.lv q rfl (fun ls' h' => kk ls' (aSt2_ok h'))
      next => cases h
    next => cases h
  · split at h
    next v r =>
      split at h
      next q => cases h; exact lv_astore_n hexec hb hdg rfl hl.lv q rfl (fun ls' h' => kk ls' (aSt1_ok h'))
      next => cases h
    next r =>
      split at h
      next q => cases h; exact lv_astore_nN hexec hb hdg rfl hl.lv q rfl (fun ls' h' => kk ls' (aSt1_ok h'))
      next => cases h
    next => cases h
  · split at h
    next v r =>
      split at h
      next q => cases h; exact lv_astore hexec hb hdg hl.lv q rfl (fun ls' h' => kk ls' (aSt1_ok h'))
      next => cases h
    next r =>
      split at h
      next q => cases h; exact lv_astoreN hexec hb hdg hl.lv q rfl (fun ls' h' => kk ls' (aSt1_ok h'))
      next => cases h
    next => cases h
  · split at h
    next y hy =>
      cases h
      have hm : (⟨_, cV ad (.int y)⟩ : Nat × Value) ∈ aPl ad L := aPl_mem.mpr ⟨_, hy, rfl⟩
      obtain ⟨k, hk⟩ := List.getElem?_of_mem hm
      exact lv_iinc hexec hb hdg hl.lv hk rfl (List.getElem?_eq_some_iff.mp hy).1 rfl (fun ls' h' => kk ls' (aSt1_ok h'))
    next => cases h
  · cases h
theorem sI_ok (hexec : p.tables.exec = Jvm.exec) (hb : c.code = cc) (hdg : decode cc pc = .ok (i, iL i)) (hl : aHas ad ls L) (h : sI i pc L S = some x) (kk : ∀ ls : Array Slot, aHas ad ls x.2.1 → W p l e R s m args below meth c H locs cells slots Q (F0 m x.1 ls (x.2.2.map (cV ad)))) : W p l e R s m args below meth c H locs cells slots Q (F0 m pc ls (S.map (cV ad))) := by
  unfold sI at h
  split at h
  · split at h
    next => cases h; exact lv_iadd hexec hb hdg (kk ls hl)
    next => cases h
  · split at h
    next => cases h; exact lv_isub hexec hb hdg (kk ls hl)
    next => cases h
  · split at h
    next => cases h; exact lv_imul hexec hb hdg (kk ls hl)
    next => cases h
  · split at h
    next => cases h; exact lv_iand hexec hb hdg (kk ls hl)
    next => cases h
  · split at h
    next => cases h; exact lv_ior hexec hb hdg (kk ls hl)
    next => cases h
  · split at h
    next => cases h; exact lv_ixor hexec hb hdg (kk ls hl)
    next => cases h
  · split at h
    next =>
      split at h
      next => cases h
      next q => cases h; exact lv_idiv hexec hb hdg q (kk ls hl)
    next => cases h
  · split at h
    next =>
      split at h
      next => cases h
      next q => cases h; exact lv_irem hexec hb hdg q (kk ls hl)
    next => cases h
  · split at h
    next => cases h; exact lv_ineg hexec hb hdg (kk ls hl)
    next => cases h
  · split at h
    next => cases h; exact lv_ishl hexec hb hdg (kk ls hl)
    next => cases h
  · split at h
    next => cases h; exact lv_ishr hexec hb hdg (kk ls hl)
    next => cases h
  · split at h
    next => cases h; exact lv_iushr hexec hb hdg rfl (kk ls hl)
    next => cases h
  · split at h
    next => cases h; exact lv_i2l hexec hb hdg rfl (kk ls hl)
    next => cases h
  · split at h
    next => cases h; exact lv_i2b hexec hb hdg rfl (kk ls hl)
    next => cases h
  · split at h
    next => cases h; exact lv_i2c hexec hb hdg rfl (kk ls hl)
    next => cases h
  · cases h
theorem sJ_ok (hexec : p.tables.exec = Jvm.exec) (hb : c.code = cc) (hdg : decode cc pc = .ok (i, iL i)) (hl : aHas ad ls L) (h : sJ i pc L S = some x) (kk : ∀ ls : Array Slot, aHas ad ls x.2.1 → W p l e R s m args below meth c H locs cells slots Q (F0 m x.1 ls (x.2.2.map (cV ad)))) : W p l e R s m args below meth c H locs cells slots Q (F0 m pc ls (S.map (cV ad))) := by
  unfold sJ at h
  split at h
  · split at h
    next => cases h; exact lv_ladd hexec hb hdg (kk ls hl)
    next => cases h
  · split at h
    next => cases h; exact lv_lsub hexec hb hdg (kk ls hl)
    next => cases h
  · split at h
    next => cases h; exact lv_lmul hexec hb hdg (kk ls hl)
    next => cases h
  · split at h
    next => cases h; exact lv_land hexec hb hdg (kk ls hl)
    next => cases h
  · split at h
    next => cases h; exact lv_lor hexec hb hdg (kk ls hl)
    next => cases h
  · split at h
    next => cases h; exact lv_lxor hexec hb hdg (kk ls hl)
    next => cases h
  · split at h
    next =>
      split at h
      next => cases h
      next q => cases h; exact lv_ldiv hexec hb hdg q (kk ls hl)
    next => cases h
  · split at h
    next =>
      split at h
      next => cases h
      next q => cases h; exact lv_lrem hexec hb hdg q (kk ls hl)
    next => cases h
  · split at h
    next => cases h; exact lv_lushr hexec hb hdg rfl (kk ls hl)
    next => cases h
  · split at h
    next => cases h; exact lv_lshl hexec hb hdg rfl (kk ls hl)
    next => cases h
  · split at h
    next => cases h; exact lv_lshr hexec hb hdg rfl (kk ls hl)
    next => cases h
  · split at h
    next => cases h; exact lv_l2i hexec hb hdg rfl (kk ls hl)
    next => cases h
  · split at h
    next => cases h; exact W.lcmp hexec hb hdg (kk ls hl)
    next => cases h
  · cases h
theorem sG_ok (hexec : p.tables.exec = Jvm.exec) (hb : c.code = cc) (hdg : decode cc pc = .ok (i, iL i)) (hl : aHas ad ls L) (h : sG i pc L S = some x) (kk : ∀ ls : Array Slot, aHas ad ls x.2.1 → W p l e R s m args below meth c H locs cells slots Q (F0 m x.1 ls (x.2.2.map (cV ad)))) : W p l e R s m args below meth c H locs cells slots Q (F0 m pc ls (S.map (cV ad))) := by
  unfold sG at h
  split at h
  · obtain ⟨rfl, ht⟩ := aTo_ok h
    exact lv_goto hexec hb hdg ht (kk ls hl)
  · split at h
    next =>
      obtain ⟨ht, hq⟩ := aBr_ok h
      exact lv_if_eq hexec hb hdg ht (fun z => by rcases hq with ⟨_, rfl⟩ | ⟨q, _⟩; exact kk ls hl; exact absurd z q) (fun z => by rcases hq with ⟨q, _⟩ | ⟨_, rfl⟩; exact absurd q z; exact kk ls hl)
    next => cases h
  · split at h
    next =>
      obtain ⟨ht, hq⟩ := aBr_ok h
      exact lv_if_ne hexec hb hdg ht (fun z => by rcases hq with ⟨_, rfl⟩ | ⟨q, _⟩; exact kk ls hl; exact absurd z q) (fun z => by rcases hq with ⟨q, _⟩ | ⟨_, rfl⟩; exact absurd z q; exact kk ls hl)
    next => cases h
  · split at h
    next =>
      obtain ⟨ht, hq⟩ := aBr_ok h
      exact lv_if_lt hexec hb hdg ht (fun z => by rcases hq with ⟨_, rfl⟩ | ⟨q, _⟩; exact kk ls hl; exact absurd z q) (fun z => by rcases hq with ⟨q, _⟩ | ⟨_, rfl⟩; exact absurd q z; exact kk ls hl)
    next => cases h
  · split at h
    next =>
      obtain ⟨ht, hq⟩ := aBr_ok h
      exact lv_if_ge hexec hb hdg ht (fun z => by rcases hq with ⟨_, rfl⟩ | ⟨q, _⟩; exact kk ls hl; exact absurd z q) (fun z => by rcases hq with ⟨q, _⟩ | ⟨_, rfl⟩; exact absurd q z; exact kk ls hl)
    next => cases h
  · split at h
    next =>
      obtain ⟨ht, hq⟩ := aBr_ok h
      exact lv_if_gt hexec hb hdg ht (fun z => by rcases hq with ⟨_, rfl⟩ | ⟨q, _⟩; exact kk ls hl; exact absurd z q) (fun z => by rcases hq with ⟨q, _⟩ | ⟨_, rfl⟩; exact absurd q z; exact kk ls hl)
    next => cases h
  · split at h
    next =>
      obtain ⟨ht, hq⟩ := aBr_ok h
      exact lv_if_le hexec hb hdg ht (fun z => by rcases hq with ⟨_, rfl⟩ | ⟨q, _⟩; exact kk ls hl; exact absurd z q) (fun z => by rcases hq with ⟨q, _⟩ | ⟨_, rfl⟩; exact absurd q z; exact kk ls hl)
    next => cases h
  · split at h
    next =>
      obtain ⟨ht, hq⟩ := aBr_ok h
      exact lv_icmp_eq hexec hb hdg ht (fun z => by rcases hq with ⟨_, rfl⟩ | ⟨q, _⟩; exact kk ls hl; exact absurd z q) (fun z => by rcases hq with ⟨q, _⟩ | ⟨_, rfl⟩; exact absurd q z; exact kk ls hl)
    next => cases h
  · split at h
    next =>
      obtain ⟨ht, hq⟩ := aBr_ok h
      exact lv_icmp_ne hexec hb hdg ht (fun z => by rcases hq with ⟨_, rfl⟩ | ⟨q, _⟩; exact kk ls hl; exact absurd z q) (fun z => by rcases hq with ⟨q, _⟩ | ⟨_, rfl⟩; exact absurd z q; exact kk ls hl)
    next => cases h
  · split at h
    next =>
      obtain ⟨ht, hq⟩ := aBr_ok h
      exact lv_icmp_lt hexec hb hdg ht (fun z => by rcases hq with ⟨_, rfl⟩ | ⟨q, _⟩; exact kk ls hl; exact absurd z q) (fun z => by rcases hq with ⟨q, _⟩ | ⟨_, rfl⟩; exact absurd q z; exact kk ls hl)
    next => cases h
  · split at h
    next =>
      obtain ⟨ht, hq⟩ := aBr_ok h
      exact lv_icmp_ge hexec hb hdg ht (fun z => by rcases hq with ⟨_, rfl⟩ | ⟨q, _⟩; exact kk ls hl; exact absurd z q) (fun z => by rcases hq with ⟨q, _⟩ | ⟨_, rfl⟩; exact absurd q z; exact kk ls hl)
    next => cases h
  · split at h
    next =>
      obtain ⟨ht, hq⟩ := aBr_ok h
      exact lv_icmp_gt hexec hb hdg ht (fun z => by rcases hq with ⟨_, rfl⟩ | ⟨q, _⟩; exact kk ls hl; exact absurd z q) (fun z => by rcases hq with ⟨q, _⟩ | ⟨_, rfl⟩; exact absurd q z; exact kk ls hl)
    next => cases h
  · split at h
    next =>
      obtain ⟨ht, hq⟩ := aBr_ok h
      exact lv_icmp_le hexec hb hdg ht (fun z => by rcases hq with ⟨_, rfl⟩ | ⟨q, _⟩; exact kk ls hl; exact absurd z q) (fun z => by rcases hq with ⟨q, _⟩ | ⟨_, rfl⟩; exact absurd q z; exact kk ls hl)
    next => cases h
  · split at h
    next =>
      obtain ⟨rfl, ht⟩ := aTo_ok h
      exact lv_ifnullN hexec hb hdg ht (kk ls hl)
    next => cases h; exact lv_ifnull hexec hb hdg (kk ls hl)
    next => cases h
  · split at h
    next => cases h; exact lv_ifnonnullN hexec hb hdg (kk ls hl)
    next =>
      obtain ⟨rfl, ht⟩ := aTo_ok h
      exact lv_ifnonnull hexec hb hdg ht (kk ls hl)
    next => cases h
  · cases h
theorem sW_ok {len : Nat} (hexec : p.tables.exec = Jvm.exec) (hb : c.code = cc) (hdg : decode cc pc = .ok (i, len)) (hl : aHas ad ls L) (h : sW i pc L S = some x) (kk : ∀ ls : Array Slot, aHas ad ls x.2.1 → W p l e R s m args below meth c H locs cells slots Q (F0 m x.1 ls (x.2.2.map (cV ad)))) : W p l e R s m args below meth c H locs cells slots Q (F0 m pc ls (S.map (cV ad))) := by
  unfold sW at h
  split at h
  · split at h
    next =>
      split at h
      next q =>
        obtain ⟨rfl, ht⟩ := aTo_ok h
        exact lv_tableOut hexec hb hdg q ht (kk ls hl)
      next q =>
        split at h
        next off ho =>
          obtain ⟨rfl, ht⟩ := aTo_ok h
          exact lv_tableIn hexec hb hdg (fun z => q (Or.inl z)) (fun z => q (Or.inr z)) ho ht (kk ls hl)
        next => cases h
    next => cases h
  · split at h
    next =>
      split at h
      next q =>
        obtain ⟨rfl, ht⟩ := aTo_ok h
        exact lv_lookup hexec hb hdg q rfl ht (kk ls hl)
      next => cases h
    next => cases h
  · cases h
end aRows
