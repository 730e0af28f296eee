/-! ===== the small machine's heap ===== -/
def aK : Nat := 1000000
/-- an array's cells: ints, longs, references -/
def cA (ad : Nat → Nat) : aA → vp_A
  | .inl xs => (xs.length, .inl (fun j => xs.getD j 0))
  | .inr (.inl xs) => (xs.length, .inr (.inl (fun j => xs.getD j 0)))
  | .inr (.inr xs) => (xs.length, .inr (.inr (.inr (.inr (fun j => (xs.getD j none).map ad)))))
def cE (tc : FieldType → ClassId) (ad : Nat → Nat) : aC → va_E
  | .inl (ty, a) => .inl (tc ty, cA ad a)
  | .inr (k, fs) => .inr (k, fs.map (cV ad))
/-- the heap holds the world -/
def wP (D : va_G) (cl : List vw_C) (tc : FieldType → ClassId) (ad : Nat → Nat) (w : aW) (H : Heap) : Prop := ∀ (i : Nat) (c : aC), w[i]? = some (some c) → va_at D cl (ad i, cE tc ad c) H
/-- the array types that are known -/
def aTy (oc : List String) : List FieldType := [.int, .long, .char, .boolean, .byte] ++ oc.map FieldType.object
def aTys (tc : FieldType → ClassId) (oc : List String) : List (ClassId × FieldType) := (aTy oc).map fun t => (tc t, t)
theorem aTys_at (tc : FieldType → ClassId) (oc : List String) {ty : FieldType} (h : ty ∈ aTy oc) : ∃ t0 : Nat, (aTys tc oc)[t0]? = some (tc ty, ty) := List.getElem?_of_mem (List.mem_map.mpr ⟨ty, h, rfl⟩)
theorem aTy_i (oc : List String) : FieldType.int ∈ aTy oc := by simp [aTy]
theorem aTy_l (oc : List String) : FieldType.long ∈ aTy oc := by simp [aTy]
theorem aTy_c (oc : List String) : FieldType.char ∈ aTy oc := by simp [aTy]
theorem aTy_z (oc : List String) : FieldType.boolean ∈ aTy oc := by simp [aTy]
theorem aTy_b (oc : List String) : FieldType.byte ∈ aTy oc := by simp [aTy]
theorem aTy_o {oc : List String} {C : String} (h : C ∈ oc) : FieldType.object C ∈ aTy oc := by simp [aTy, h]
section aWorld
variable {D : va_G} {cl : List vw_C} {tc : FieldType → ClassId} {ad : Nat → Nat} {w : aW} {H H1 : Heap} {N0 : Nat}
theorem wP.one (h : wP D cl tc ad w H) {i : Nat} {c : aC} (hi : w[i]? = some (some c)) : va_P D cl [(ad i, cE tc ad c)] H := by
  intro k q hk
  have hz : k < 1 := (List.getElem?_eq_some_iff.mp hk).1
  rw [show k = 0 by omega] at hk
  cases hk
  exact h i c hi
theorem wP.set (had : ∀ i, i < aK → ad i = N0 + i) (h : wP D cl tc ad w H) (hlen : w.length ≤ aK) {a : Nat} {c0 c1 : aC} (ha : w[a]? = some (some c0)) (he : va_at D cl (ad a, cE tc ad c1) H1) (oq : ∀ q : Nat, q ≠ ad a → H1[q]? = H[q]?) : wP D cl tc ad (w.set a (some c1)) H1 := by
  have hal := (List.getElem?_eq_some_iff.mp ha).1
  intro i c hi
  by_cases e : a = i
  · subst e
    rw [List.getElem?_set_self hal] at hi
    cases hi
    exact he
  · rw [List.getElem?_set_ne e] at hi
    have hil := (List.getElem?_eq_some_iff.mp hi).1
    refine (h i c hi).kept (oq (ad i) ?_)
    rw [had i (by omega), had a (by omega)]
    omega
theorem wP.push (h : wP D cl tc ad w H) (ho : ∀ q : Nat, q < H.size → H1[q]? = H[q]?) {c : aC} (hc : va_at D cl (ad w.length, cE tc ad c) H1) : wP D cl tc ad (w ++ [some c]) H1 := by
  intro i c' hi
  by_cases hl : i < w.length
  · rw [List.getElem?_append_left hl] at hi
    exact (h i c' hi).kept (ho _ (h i c' hi).lt)
  · rw [List.getElem?_append_right (by omega)] at hi
    have hz : i - w.length < 1 := (List.getElem?_eq_some_iff.mp hi).1
    have he : i = w.length := by omega
    subst he
    rw [Nat.sub_self] at hi
    cases hi
    exact hc
theorem wP.kept (h : wP D cl tc ad w H) (ho : ∀ q : Nat, q < H.size → H1[q]? = H[q]?) : wP D cl tc ad w H1 := fun i c hi => (h i c hi).kept (ho _ (h i c hi).lt)
end aWorld
/-- loads: fields, array elements, lengths, constants, statics. lk: what an entry of the pool is (0 a field, 6 a final field of the class itself, 10 a final field of another: class and place; 3 an int, 4 a long; 5 a static's array); ext: int arrays that lie outside the world -/
abbrev aLk : Type := Nat → Option (Nat × Nat × Int)
/-- what lies outside: an int array, a byte array, a String (the number of its bytes' array) -/
abbrev aEx : Type := Nat → Option (List Int32 ⊕ List Int32 ⊕ Nat)
abbrev aSv : Type := Nat → Option Value
def aIx {α : Type} (xs : List α) (j : Int32) : Option α := if j < 0 then none else xs[j.toNatClampNeg]?
def aLn : aA → Nat
  | .inl xs => xs.length
  | .inr (.inl xs) => xs.length
  | .inr (.inr xs) => xs.length
theorem aIx_ok {α : Type} {xs : List α} {j : Int32} {v : α} (h : aIx xs j = some v) (d : α) : vp_in j xs.length ∧ xs.getD j.toNatClampNeg d = v ∧ xs[j.toNatClampNeg]? = some v := by
  unfold aIx at h
  split at h
  next => cases h
  next q =>
    have hl := (List.getElem?_eq_some_iff.mp h).1
    refine ⟨fun z => ?_, by simp [List.getD, h], h⟩
    rcases z with z | z
    · exact q z
    · omega
def aFd (w : aW) (a ci k : Nat) : Option Value := match w[a]? with
  | some (some (.inr (ci', fs))) => if ci' = ci then fs[k]? else none
  | _ => none
def sH (lk : aLk) (ext : aEx) (sv : aSv) (oc : List String) (i : Instr) (pc : Nat) (L : aL) (S : List Value) (w : aW) : Option aX := match i with
  | .getfield idx => match S with
    | .ref a :: r => match lk idx with
      | some (0, ci, k) => match aFd w a ci k.toNat with
        | some v => some (pc + 3, L, v :: r)
        | none => none
      | some (6, ci, k) => match aFd w a ci k.toNat with
        | some v => some (pc + 3, L, v :: r)
        | none => none
      | some (10, ci, k) => match aFd w a ci k.toNat with
        | some v => some (pc + 3, L, v :: r)
        | none => none
      | some (8, j, _) => match ext a with
        | some (.inr (.inr b)) => if j = 0 then some (pc + 3, L, .ref b :: r) else some (pc + 3, L, .int 0 :: r)
        | _ => none
      | _ => none
    | _ => none
  | .iaload => match S with
    | .int j :: .ref a :: r => match w[a]? with
      | some (some (.inl (.int, .inl xs))) => match aIx xs j with
        | some v => some (pc + 1, L, .int v :: r)
        | none => none
      | none => match ext a with
        | some (.inl xs) => match aIx xs j with
          | some v => some (pc + 1, L, .int v :: r)
          | none => none
        | _ => none
      | _ => none
    | _ => none
  | .baload => match S with
    | .int j :: .ref a :: r => match w[a]? with
      | some (some (.inl (.boolean, .inl xs))) => match aIx xs j with
        | some v => some (pc + 1, L, .int v :: r)
        | none => none
      | none => match ext a with
        | some (.inr (.inl xs)) => match aIx xs j with
          | some v => some (pc + 1, L, .int v :: r)
          | none => none
        | _ => none
      | _ => none
    | _ => none
  | .caload => match S with
    | .int j :: .ref a :: r => match w[a]? with
      | some (some (.inl (.char, .inl xs))) => match aIx xs j with
        | some v => some (pc + 1, L, .int v :: r)
        | none => none
      | _ => none
    | _ => none
  | .laload => match S with
    | .int j :: .ref a :: r => match w[a]? with
      | some (some (.inl (.long, .inr (.inl xs)))) => match aIx xs j with
        | some v => some (pc + 1, L, .long v :: r)
        | none => none
      | _ => none
    | _ => none
  | .aaload => match S with
    | .int j :: .ref a :: r => match w[a]? with
      | some (some (.inl (.object C, .inr (.inr xs)))) => match aIx xs j with
        | some v => if C ∈ oc then some (pc + 1, L, va_rf v :: r) else none
        | none => none
      | _ => none
    | _ => none
  | .arraylength => match S with
    | .ref a :: r => match w[a]? with
      | some (some (.inl (ty, x))) => if ty ∈ aTy oc then some (pc + 1, L, .int (Int32.ofNat (aLn x)) :: r) else none
      | none => match ext a with
        | some (.inl xs) => some (pc + 1, L, .int (Int32.ofNat xs.length) :: r)
        | some (.inr (.inl xs)) => some (pc + 1, L, .int (Int32.ofNat xs.length) :: r)
        | _ => none
      | _ => none
    | _ => none
  | .getstatic idx => match lk idx with
    | some (5, j, _) => match sv j with
      | some v => some (pc + 3, L, v :: S)
      | none => none
    | _ => none
  | .ldc idx => match lk idx with
    | some (3, _, z) => some (pc + 2, L, .int (Int32.ofInt z) :: S)
    | some (11, a, _) => some (pc + 2, L, .ref a :: S)
    | _ => none
  | .ldc_w idx => match lk idx with
    | some (3, _, z) => some (pc + 3, L, .int (Int32.ofInt z) :: S)
    | _ => none
  | .ldc2_w idx => match lk idx with
    | some (4, _, z) => some (pc + 3, L, .long (Int64.ofInt z) :: S)
    | _ => none
  | _ => none
/-- what the pool's entries are, by the tables' words -/
abbrev aSt : Type := List ((String × String × String) × Nat)
abbrev aNl : Type := List (String × Nat × MethodName × String)
abbrev aSl : Type := List (String × Nat × String × Nat)
/-- statics, links to nest mates' constructors, String constants -/
abbrev aXt : Type := aSt × aNl × aSl
/-- the methods that are taken as they are -/
def mName : Nat → MethodName
  | 0 => arraycopyName
  | 1 => Lib.objectInit
  | 2 => Lib.Math.max.name
  | 3 => Lib.Math.min.name
  | 4 => Lib.MathLoose.max_long.x
  | _ => Lib.MathLoose.min_long.x
def lkOk (cl : List vw_C) (Ts : List Cond) (st : aXt) (own : String) (lk : aLk) : Prop :=
  (∀ idx t ci k, lk idx = some (t, ci, k) → (t = 0 ∨ t = 6 ∨ t = 10) → ∃ C T N, cl[ci]? = some (C, T, N) ∧ k.toNat < N ∧ (t ≠ 10 → (T k.toNat).2.2.2 = (t == 6)) ∧ ((t == 6) = true → (T k.toNat).1 = own) ∧ Cond.fieldLink own idx (T k.toNat).1 (T k.toNat).2.1 (T k.toNat).2.2.1 ∈ Ts) ∧
  (∀ idx a z, lk idx = some (3, a, z) → Cond.constant own idx (Int32.ofInt z) ∈ Ts) ∧
  (∀ idx a z, lk idx = some (4, a, z) → Cond.constantLong own idx (Int64.ofInt z) ∈ Ts) ∧
  (∀ idx a z, lk idx = some (5, a, z) → ∃ q ∈ st.1, q.2 = a ∧ Cond.fieldLink own idx q.1.1 q.1.2.1 q.1.2.2 ∈ Ts) ∧
  (∀ idx a z, lk idx = some (2, a, z) → ∃ C T N, cl[a]? = some (C, T, N) ∧ Cond.classLink own idx C ∈ Ts ∧ Cond.instantiable C N ∈ Ts ∧ Cond.initialized C ∈ Ts) ∧
  (∀ idx a z, lk idx = some (8, a, z) → if a = 0 then Cond.fieldLink own idx "java/lang/String" "value" "[B" ∈ Ts else Cond.fieldLink own idx "java/lang/String" "coder" "B" ∈ Ts) ∧
  (∀ idx a z, lk idx = some (11, a, z) → ∃ tx, (own, idx, tx, a) ∈ st.2.2) ∧
  (∀ idx a z, lk idx = some (7, a, z) → Cond.methodLink own idx (mName a) ∈ Ts)
/-- the classes, by the tables' words -/
def clOk (cl : List vw_C) (Ts : List Cond) (ty : Nat → Nat → FieldType) : Prop := ∀ ci C T N, cl[ci]? = some (C, T, N) → (∀ u ∈ u_ws C T N, u ∈ Ts) ∧ (∀ k, k < N → parseFieldDescriptor (T k).2.2.1 = some (ty ci k)) ∧ (∀ a, a < N → ∀ b, b < N → a ≠ b → (T a).2.1 ≠ (T b).2.1)
/-- what lies outside the world: static fields; arrays and Strings that nobody writes; and what the tables say that isn't among the words: arrays over classes, links to nest mates' constructors, String constants -/
def eXo (A : Nat → Prop) (ad : Nat → Nat) (a : Nat) (x : List Int32 ⊕ List Int32 ⊕ Nat) (U : State) (H : Heap) : Prop := match x with
  | .inl xs => va_T .int (ad a) xs.length (fun j => .int (xs.getD j 0)) A U H
  | .inr (.inl xs) => va_T .byte (ad a) xs.length (fun j => .int (xs.getD j 0)) A U H
  | .inr (.inr b) => va_O "java/lang/String" (ad a) A U H ∧ va_OF "java/lang/String" "coder" "B" (.int 0) (ad a) A U H ∧ va_OF "java/lang/String" "value" "[B" (.ref (ad b)) (ad a) A U H
theorem eXo.moved {A : Nat → Prop} {ad : Nat → Nat} {a : Nat} {x : List Int32 ⊕ List Int32 ⊕ Nat} {u U : State} {H : Heap} (hvm : u.vm.Alike U.vm) (h : eXo A ad a x u H) : eXo A ad a x U H := by
  obtain xs | xs | b := x
  · exact va_T.moved hvm h
  · exact va_T.moved hvm h
  · exact ⟨va_O.moved hvm h.1, va_OF.moved hvm h.2.1, va_OF.moved hvm h.2.2⟩
theorem eXo.kept {A : Nat → Prop} {ad : Nat → Nat} {a : Nat} {x : List Int32 ⊕ List Int32 ⊕ Nat} {U : State} {H H1 : Heap} (h : eXo A ad a x U H) (hq : ∀ a : Nat, a < H.size → ¬ A a → H1[a]? = H[a]?) : eXo A ad a x U H1 := by
  obtain xs | xs | b := x
  · exact va_T.kept h hq
  · exact va_T.kept h hq
  · exact ⟨va_O.kept h.1 hq, va_OF.kept h.2.1 hq, va_OF.kept h.2.2 hq⟩
def eX (A : Nat → Prop) (ad : Nat → Nat) (st : aXt) (ext : aEx) (sv : aSv) (oc : List String) (U : State) (H : Heap) : Prop :=
  (∀ q ∈ st.1, ∃ v, sv q.2 = some v ∧ va_Z q.1.1 q.1.2.1 q.1.2.2 (cV ad v) A U H) ∧ (∀ a x, ext a = some x → eXo A ad a x U H) ∧ (∀ C ∈ oc, va_AO C U) ∧ (∀ q ∈ st.2.1, va_Nw (.methodLinkNest q.1 q.2.1 q.2.2.1 q.2.2.2) U) ∧ (∀ q ∈ st.2.2, vk_R q.1 q.2.1 q.2.2.1 (ad q.2.2.2) U)
theorem eX.warm {A : Nat → Prop} {ad : Nat → Nat} {st : aXt} {ext : aEx} {sv : aSv} {oc : List String} {u U : State} {H : Heap} (hW : u.WarmedH U.vm) (h : eX A ad st ext sv oc u H) : eX A ad st ext sv oc U H := ⟨fun q hq => by obtain ⟨v, h1, h2⟩ := h.1 q hq; exact ⟨v, h1, va_Z.moved hW.alike h2⟩, fun a x hf => eXo.moved hW.alike (h.2.1 a x hf), fun C hC => va_AO.moved hW.alike (h.2.2.1 C hC), fun q hq => va_Nw.warmM hW (h.2.2.2.1 q hq), fun q hq => vk_R.warm hW (h.2.2.2.2 q hq)⟩
theorem eX.same {A : Nat → Prop} {ad : Nat → Nat} {st : aXt} {ext : aEx} {sv : aSv} {oc : List String} {u U : State} {H : Heap} (hvm : u.vm = U.vm) (h : eX A ad st ext sv oc u H) : eX A ad st ext sv oc U H := ⟨fun q hq => by obtain ⟨v, h1, h2⟩ := h.1 q hq; exact ⟨v, h1, va_Z.moved (hvm ▸ Vm.Alike.refl u.vm) h2⟩, fun a x hf => eXo.moved (hvm ▸ Vm.Alike.refl u.vm) (h.2.1 a x hf), fun C hC => va_AO.moved (hvm ▸ Vm.Alike.refl u.vm) (h.2.2.1 C hC), fun q hq => va_Nw.same rfl hvm (h.2.2.2.1 q hq), fun q hq => vk_R.same hvm.symm (h.2.2.2.2 q hq)⟩
theorem eX.kept {A : Nat → Prop} {ad : Nat → Nat} {st : aXt} {ext : aEx} {sv : aSv} {oc : List String} {U : State} {H H1 : Heap} (h : eX A ad st ext sv oc U H) (hq : ∀ a : Nat, a < H.size → ¬ A a → H1[a]? = H[a]?) : eX A ad st ext sv oc U H1 := ⟨fun q hs => by obtain ⟨v, h1, h2⟩ := h.1 q hs; exact ⟨v, h1, va_Z.kept h2 hq⟩, fun a x hf => eXo.kept (h.2.1 a x hf) hq, h.2.2.1, h.2.2.2.1, h.2.2.2.2⟩
section aLoads
variable {p : Program} {l : Launch} {e : Env} {R : Room} {s : State} {m : MethodId} {args : Array Value} {below : List Frame} {meth : Method} {c : Code} {H : Heap} {locs : List Loc} {cells slots : Nat} {Q : State → Prop}
variable {cc : ByteArray} {pc : Nat} {ls : Array Slot} {ad : Nat → Nat} {L : aL} {S : List Value} {i : Instr} {x : aX}
variable {D : va_G} {cl : List vw_C} {tc : FieldType → ClassId} {w : aW} {N0 : Nat} {Ts : List Cond} {st : aXt} {lk : aLk} {ext : aEx} {sv : aSv} {oc : List String} {own : String} {ty : Nat → Nat → FieldType} {A : Nat → Prop}
theorem aFd_ok {a ci k : Nat} {v : Value} (h : aFd w a ci k = some v) : ∃ fs, w[a]? = some (some (.inr (ci, fs))) ∧ fs[k]? = some v := by
  unfold aFd at h
  split at h
  next ci' fs hw =>
    split at h
    next q => subst q; exact ⟨fs, hw, h⟩
    next => cases h
  next => cases h
theorem aGet_ok (hexec : p.tables.exec = Jvm.exec) (hb : c.code = cc) (hts : ∀ u ∈ Ts, u.before args s = true) (hown : s.vm.findClass own = some m.cls) (hcl : clOk cl Ts ty) (hlk : lkOk cl Ts st own lk) (hK : va_K D cl (aTys tc oc) s) (hP : wP D cl tc ad w H) {idx t ci a : Nat} {k : Int} {v : Value} {r : List Value} (hi : lk idx = some (t, ci, k)) (ht : t = 0 ∨ t = 6 ∨ t = 10) (hv : aFd w a ci k.toNat = some v) (hdg : decode cc pc = .ok (.getfield idx, 3))
    (kk : W p l e R s m args below meth c H locs cells slots Q (F0 m (pc + 3) ls (cV ad v :: r.map (cV ad)))) : W p l e R s m args below meth c H locs cells slots Q (F0 m pc ls (.ref (ad a) :: r.map (cV ad))) := by
  obtain ⟨C, T, N, hc, hkN, -, -, hlink⟩ := hlk.1 idx t ci k hi ht
  obtain ⟨fs, hw, hf⟩ := aFd_ok hv
  have h1 : ([(ad a, cE tc ad (.inr (ci, fs)))] : va_W)[0]? = some (ad a, .inr (ci, fs.map (cV ad))) := rfl
  exact va_get hexec hb hts (hcl ci C T N hc).1 hown hK (hP.one hw) 0 h1 hc k.toNat hkN (hts _ hlink) (fun _ z => z) (by rw [List.getElem?_map, hf]; rfl) hdg kk
theorem sH_ok (hexec : p.tables.exec = Jvm.exec) (hb : c.code = cc) (hdg : decode cc pc = .ok (i, iL i)) (hts : ∀ u ∈ Ts, u.before args s = true) (hown : s.vm.findClass own = some m.cls) (hcl : clOk cl Ts ty) (hlk : lkOk cl Ts st own lk) (hK : va_K D cl (aTys tc oc) s) (hP : wP D cl tc ad w H) (hX : eX A ad st ext sv oc s s.heap) (hS : va_S A s.heap H locs) (hl : aHas ad ls L) (h : sH lk ext sv oc i pc L S w = some x)
    (kk : ∀ ls : Array Slot, aHas ad ls x.2.1 → W p l e R s m args below meth c H locs cells slots Q (F0 m x.1 ls (x.2.2.map (cV ad)))) : W p l e R s m args below meth c H locs cells slots Q (F0 m pc ls (S.map (cV ad))) := by
  unfold sH at h
  split at h
  · split at h
    next =>
      split at h
      next hi =>
        split at h
        next v hv => cases h; exact aGet_ok hexec hb hts hown hcl hlk hK hP hi (Or.inl rfl) hv hdg (kk ls hl)
        next => cases h
      next hi =>
        split at h
        next v hv => cases h; exact aGet_ok hexec hb hts hown hcl hlk hK hP hi (Or.inr (Or.inl rfl)) hv hdg (kk ls hl)
        next => cases h
      next hi =>
        split at h
        next v hv => cases h; exact aGet_ok hexec hb hts hown hcl hlk hK hP hi (Or.inr (Or.inr rfl)) hv hdg (kk ls hl)
        next => cases h
      next j z hi =>
        have h8 := hlk.2.2.2.2.2.1 _ _ _ hi
        split at h
        next b he =>
          obtain ⟨-, g2, g3⟩ := hX.2.1 _ _ he
          split at h
          next hj =>
            cases h
            rw [if_pos hj] at h8
            exact vk_getf hexec hb g3 hS hown (hts _ h8) (fun _ z => z) hdg (kk ls hl)
          next hj =>
            cases h
            rw [if_neg hj] at h8
            exact vk_getf hexec hb g2 hS hown (hts _ h8) (fun _ z => z) hdg (kk ls hl)
        next => cases h
      next => cases h
    next => cases h
  · split at h
    next =>
      split at h
      next hw =>
        split at h
        next v hq =>
          cases h
          obtain ⟨t0, ht0⟩ := aTys_at tc oc (aTy_i oc)
          obtain ⟨q1, q2, -⟩ := aIx_ok hq 0
          have k2 := kk ls hl
          dsimp only at k2
          rw [← q2] at k2
          exact va_iald hexec hb hK (hP.one hw) 0 t0 rfl ht0 q1 hdg k2
        next => cases h
      next =>
        split at h
        next xs he =>
          split at h
          next v hq =>
            cases h
            obtain ⟨q1, q2, -⟩ := aIx_ok hq 0
            exact va_ti hexec hb (hX.2.1 _ _ he : va_T _ _ _ _ _ _ _) hS q1 (congrArg Value.int q2) hdg (kk ls hl)
          next => cases h
        next => cases h
      next => cases h
    next => cases h
  · split at h
    next =>
      split at h
      next hw =>
        split at h
        next v hq =>
          cases h
          obtain ⟨t0, ht0⟩ := aTys_at tc oc (aTy_z oc)
          obtain ⟨q1, q2, -⟩ := aIx_ok hq 0
          have k2 := kk ls hl
          dsimp only at k2
          rw [← q2] at k2
          exact va_zald hexec hb hK (hP.one hw) 0 t0 rfl ht0 q1 hdg k2
        next => cases h
      next =>
        split at h
        next xs he =>
          split at h
          next v hq =>
            cases h
            obtain ⟨q1, q2, -⟩ := aIx_ok hq 0
            exact va_tb hexec hb (hX.2.1 _ _ he : va_T _ _ _ _ _ _ _) hS q1 (congrArg Value.int q2) hdg (kk ls hl)
          next => cases h
        next => cases h
      next => cases h
    next => cases h
  · split at h
    next =>
      split at h
      next hw =>
        split at h
        next v hq =>
          cases h
          obtain ⟨t0, ht0⟩ := aTys_at tc oc (aTy_c oc)
          obtain ⟨q1, q2, -⟩ := aIx_ok hq 0
          have k2 := kk ls hl
          dsimp only at k2
          rw [← q2] at k2
          exact va_cald hexec hb hK (hP.one hw) 0 t0 rfl ht0 q1 hdg k2
        next => cases h
      next => cases h
    next => cases h
  · split at h
    next =>
      split at h
      next hw =>
        split at h
        next v hq =>
          cases h
          obtain ⟨t0, ht0⟩ := aTys_at tc oc (aTy_l oc)
          obtain ⟨q1, q2, -⟩ := aIx_ok hq 0
          have k2 := kk ls hl
          dsimp only at k2
          rw [← q2] at k2
          exact va_lald hexec hb hK (hP.one hw) 0 t0 rfl ht0 q1 hdg k2
        next => cases h
      next => cases h
    next => cases h
  · split at h
    next =>
      split at h
      next C xs hw =>
        split at h
        next v hq =>
          split at h
          next hC =>
            cases h
            obtain ⟨t0, ht0⟩ := aTys_at tc oc (aTy_o hC)
            obtain ⟨q1, q2, -⟩ := aIx_ok hq none
            refine va_aldq hexec hb hK (hP.one hw) 0 t0 rfl ht0 q1 hdg ?_
            have k2 := kk ls hl
            show W p l e R s m args below meth c H locs cells slots Q (F0 m (pc + 1) ls (va_rf ((xs.getD _ none).map ad) :: _))
            rw [q2]
            cases v <;> exact k2
          next => cases h
        next => cases h
      next => cases h
    next => cases h
  · split at h
    next =>
      split at h
      next tq xq hw =>
        split at h
        next q =>
          cases h
          obtain ⟨t0, ht0⟩ := aTys_at tc oc q
          obtain xs | xs | xs := xq
          all_goals exact va_alen hexec hb hK (hP.one hw) 0 t0 rfl ht0 rfl hdg (kk ls hl)
        next => cases h
      next =>
        split at h
        next xs he => cases h; exact va_tlen hexec hb (hX.2.1 _ _ he : va_T _ _ _ _ _ _ _) hS rfl hdg (kk ls hl)
        next xs he => cases h; exact va_tlen hexec hb (hX.2.1 _ _ he : va_T _ _ _ _ _ _ _) hS rfl hdg (kk ls hl)
        next => cases h
      next => cases h
    next => cases h
  · split at h
    next a z hi =>
      split at h
      next v hv =>
        cases h
        obtain ⟨q, hq, ha, hlink⟩ := hlk.2.2.2.1 _ _ _ hi
        subst ha
        obtain ⟨v', g1, g2⟩ := hX.1 q hq
        cases hv.symm.trans g1
        exact va_gets hexec hb g2 hS hown (hts _ hlink) (fun _ z => z) hdg (kk ls hl)
      next => cases h
    next => cases h
  · split at h
    next hi => cases h; exact lv_ldc hexec hb hown (hts _ (hlk.2.1 _ _ _ hi)) hdg (kk ls hl)
    next hi =>
      cases h
      obtain ⟨tx, htx⟩ := hlk.2.2.2.2.2.2.1 _ _ _ hi
      exact va_ldcS hexec hb hown (hX.2.2.2.2 _ htx) hdg (kk ls hl)
    next => cases h
  · split at h
    next hi => cases h; exact lv_ldcw hexec hb hown (hts _ (hlk.2.1 _ _ _ hi)) hdg (kk ls hl)
    next => cases h
  · split at h
    next hi => cases h; exact lv_ldc2 hexec hb hown (hts _ (hlk.2.2.1 _ _ _ hi)) hdg (kk ls hl)
    next => cases h
  · cases h
end aLoads
