/-! ===== the small machine runs: steps, calls, answers ===== -/
/-- a method: name, code, locals, answer, parameters, its class's number, is it a constructor -/
abbrev aMI : Type := MethodName × ByteArray × Nat × Option FieldType × Nat × Nat × Bool
/-- a program: methods; code by place; pools; the fields' types; the fields at birth; classes; the classes that arrays are over; what lies outside; statics -/
abbrev aPg : Type := (Nat → Option aMI) × (Nat → Nat → Option (Instr × Nat)) × (Nat → aLk) × (Nat → Nat → FieldType) × (Nat → Option (List Value)) × List vw_C × List String × aEx × aSv
abbrev pI (g : aPg) := g.1
abbrev pC (g : aPg) := g.2.1
abbrev pL (g : aPg) := g.2.2.1
abbrev pT (g : aPg) := g.2.2.2.1
abbrev pD (g : aPg) := g.2.2.2.2.1
abbrev pK (g : aPg) := g.2.2.2.2.2.1
abbrev pO (g : aPg) := g.2.2.2.2.2.2.1
abbrev pE (g : aPg) := g.2.2.2.2.2.2.2.1
abbrev pS (g : aPg) := g.2.2.2.2.2.2.2.2
abbrev aS : Type := Nat × aL × List Value × aW × Nat
/-- what touches no heap -/
def sQ (i : Instr) (pc : Nat) (L : aL) (S : List Value) : Option aX := match sA i pc L S with
  | some y => some y
  | none => match sB i pc L S with
    | some y => some y
    | none => match sI i pc L S with
      | some y => some y
      | none => match sJ i pc L S with
        | some y => some y
        | none => sG i pc L S
def s0 (g : aPg) (mi : Nat) (ini : Bool) (i : Instr) (len : Nat) (x : aS) : Option aS :=
  if iL i = len then match sQ i x.1 x.2.1 x.2.2.1 with
    | some y => some (y.1, y.2.1, y.2.2, x.2.2.2.1, x.2.2.2.2)
    | none => match sH (pL g mi) (pE g) (pS g) (pO g) i x.1 x.2.1 x.2.2.1 x.2.2.2.1 with
      | some y => some (y.1, y.2.1, y.2.2, x.2.2.2.1, x.2.2.2.2)
      | none => match sM (pL g mi) ini (pK g) (pT g) (pO g) i x.1 x.2.1 x.2.2.1 x.2.2.2.1 with
        | some y => some (y.1.1, y.1.2.1, y.1.2.2, y.2, x.2.2.2.2)
        | none => match sN (pL g mi) (pK g) (pD g) (pO g) i x.1 x.2.1 x.2.2.1 x.2.2.2.1 with
          | some y => if x.2.2.2.2 + y.2.2 ≤ 7000000 then some (y.1.1, y.1.2.1, y.1.2.2, y.2.1, x.2.2.2.2 + y.2.2) else none
          | none => none
  else match sW i x.1 x.2.1 x.2.2.1 with
    | some y => some (y.1, y.2.1, y.2.2, x.2.2.2.1, x.2.2.2.2)
    | none => none
/-- an answer -/
def sR (ret : Option FieldType) (i : Instr) (S : List Value) : Option (Option Value) := match i with
  | .ireturn => match S with
    | [.int v] => match ret with
      | some .int => some (some (.int v))
      | some .boolean => if v = 0 ∨ v = 1 then some (some (.int v)) else none
      | some .char => if v.toUInt32.toUInt16.toUInt32.toInt32 = v then some (some (.int v)) else none
      | some .byte => if v.toInt8.toInt32 = v then some (some (.int v)) else none
      | _ => none
    | _ => none
  | .lreturn => match S with
    | [.long v] => match ret with
      | some .long => some (some (.long v))
      | _ => none
    | _ => none
  | .areturn => match S with
    | [.ref a] => match ret with
      | some (.object _) => some (some (.ref a))
      | some (.array _) => some (some (.ref a))
      | _ => none
    | [.null] => match ret with
      | some (.object _) => some (some .null)
      | some (.array _) => some (some .null)
      | _ => none
    | _ => none
  | .return_ => match S with
    | [] => match ret with
      | none => some none
      | _ => none
    | _ => none
  | _ => none
/-- the locals with which a method begins -/
def aFl (av : List Value) : aL := av.flatMap fun v => if v.category = 2 then [some v, none] else [some v]
def aEnt (mL : Nat) (av : List Value) : aL := aFl av ++ List.replicate (mL - (aFl av).length) none
/-- a call: which method, its arguments, what stays on the stack -/
def sC (g : aPg) (mi : Nat) (i : Instr) (x : aS) : Option (Nat × Nat × List Value × List Value) := match i with
  | .invokestatic idx => match pL g mi idx with
    | some (1, k, z) => match pI g k with
      | some (_, _, mL, _, np, _, _) => if z = 0 ∧ np ≤ x.2.2.1.length ∧ ((x.2.2.1.drop np).map fun v => v.category).sum ≤ 8 ∧ (aFl (x.2.2.1.take np).reverse).length ≤ mL then some (k, mL, (x.2.2.1.take np).reverse, x.2.2.1.drop np) else none
      | none => none
    | _ => none
  | .invokevirtual idx => match pL g mi idx with
    | some (1, k, z) => match pI g k with
      | some (_, _, mL, _, np, ck, _) => match x.2.2.1.drop np with
        | .ref b :: r => match x.2.2.2.1[b]? with
          | some (some (.inr (ci, _))) => if z = 1 ∧ ci = ck ∧ (r.map fun v => v.category).sum ≤ 8 ∧ (aFl (.ref b :: (x.2.2.1.take np).reverse)).length ≤ mL then some (k, mL, .ref b :: (x.2.2.1.take np).reverse, r) else none
          | none => match pE g b with
            | some (.inr (.inr _)) => if z = 4 ∧ (r.map fun v => v.category).sum ≤ 8 ∧ (aFl (.ref b :: (x.2.2.1.take np).reverse)).length ≤ mL then some (k, mL, .ref b :: (x.2.2.1.take np).reverse, r) else none
            | _ => none
          | _ => none
        | _ => none
      | none => none
    | _ => none
  | .invokespecial idx => match pL g mi idx with
    | some (1, k, z) => match pI g k with
      | some (_, _, mL, _, np, _, _) => match x.2.2.1.drop np with
        | .ref b :: r => if (z = 2 ∨ z = 3) ∧ (r.map fun v => v.category).sum ≤ 8 ∧ (aFl (.ref b :: (x.2.2.1.take np).reverse)).length ≤ mL then some (k, mL, .ref b :: (x.2.2.1.take np).reverse, r) else none
        | _ => none
      | none => none
    | _ => none
  | _ => none
abbrev aRn : Type := Nat → Nat → aS → Option (Option Value × aW × Nat)
/-- one step of a method, a whole call of another among them (E: how calls run) -/
def st1 (g : aPg) (E : aRn) (d mi mL : Nat) (ini : Bool) (i : Instr) (len : Nat) (x : aS) : Option aS := match s0 g mi ini i len x with
  | some y => some y
  | none => if iL i = len then match d with
    | 0 => none
    | d' + 1 => if x.2.1.length = mL then match sC g mi i x with
      | some (k, mL', av, rest) => match E d' k (0, aEnt mL' av, [], x.2.2.2.1, x.2.2.2.2) with
        | some (r, w', n') => some (x.1 + 3, x.2.1, r.toList ++ rest, w', n')
        | none => none
      | none => match sP (pL g mi) (pE g) i x.1 x.2.1 x.2.2.1 x.2.2.2.1 with
        | some y => some (y.1.1, y.1.2.1, y.1.2.2, y.2, x.2.2.2.2)
        | none => none
      else none
    else none
def ex (g : aPg) : Nat → aRn
  | 0 => fun _ _ _ => none
  | f + 1 => fun d mi x => match pI g mi with
    | none => none
    | some (_, _, mL, ret, _, _, ini) => match pC g mi x.1 with
      | none => none
      | some (i, len) => match (if iL i = len then sR ret i x.2.2.1 else none) with
        | some v => some (v, x.2.2.2.1, x.2.2.2.2)
        | none => match st1 g (ex g f) d mi mL ini i len x with
          | some y => ex g f d mi y
          | none => none
theorem sM_len {lk : aLk} {ini : Bool} {cl : List vw_C} {ty : Nat → Nat → FieldType} {oc : List String} {i : Instr} {pc : Nat} {L : aL} {S : List Value} {w : aW} {x : aX × aW} (h : sM lk ini cl ty oc i pc L S w = some x) : x.2.length = w.length := by
  unfold sM at h
  split at h
  all_goals (repeat' split at h)
  all_goals first
    | cases h; done
    | (cases h; exact List.length_set ..)
    | (rename_i hv; cases h; obtain ⟨fs, -, -, -, z⟩ := aPt_ok hv; rw [z, List.length_set])
theorem sN_len {lk : aLk} {cl : List vw_C} {dfl : Nat → Option (List Value)} {oc : List String} {i : Instr} {pc : Nat} {L : aL} {S : List Value} {w : aW} {x : aX × aW × Nat} (h : sN lk cl dfl oc i pc L S w = some x) : x.2.1.length = w.length + 1 ∧ x.2.1.length ≤ 600000 := by
  unfold sN at h
  split at h
  all_goals (repeat' split at h)
  all_goals first
    | cases h; done
    | (obtain ⟨-, -, z, rfl⟩ := aMk_ok h; simp; omega)
    | (cases h; simp; omega)
theorem s0_len {g : aPg} {mi : Nat} {ini : Bool} {i : Instr} {len : Nat} {x y : aS} (h : s0 g mi ini i len x = some y) : x.2.2.2.1.length ≤ y.2.2.2.1.length ∧ x.2.2.2.2 ≤ y.2.2.2.2 ∧ (x.2.2.2.1.length ≤ 600000 → y.2.2.2.1.length ≤ 600000) ∧ (x.2.2.2.2 ≤ 7000000 → y.2.2.2.2 ≤ 7000000) := by
  unfold s0 at h
  repeat' split at h
  all_goals first
    | cases h; done
    | (cases h; exact ⟨Nat.le_refl _, Nat.le_refl _, fun z => z, fun z => z⟩)
    | (next hy => cases h; have := sM_len hy; refine ⟨?_, ?_, ?_, ?_⟩ <;> dsimp only <;> omega)
    | (next hy hq => cases h; have := sN_len hy; refine ⟨?_, ?_, ?_, ?_⟩ <;> dsimp only <;> omega)
def gMono (E : aRn) : Prop := ∀ (d mi : Nat) (x : aS) (r : Option Value) (w' : aW) (n' : Nat), E d mi x = some (r, w', n') → x.2.2.2.1.length ≤ w'.length ∧ x.2.2.2.2 ≤ n' ∧ (x.2.2.2.1.length ≤ 600000 → w'.length ≤ 600000) ∧ (x.2.2.2.2 ≤ 7000000 → n' ≤ 7000000)
theorem st1_len {g : aPg} {E : aRn} {d mi mL : Nat} {ini : Bool} {i : Instr} {len : Nat} {x y : aS} (hE : gMono E) (h : st1 g E d mi mL ini i len x = some y) : x.2.2.2.1.length ≤ y.2.2.2.1.length ∧ x.2.2.2.2 ≤ y.2.2.2.2 ∧ (x.2.2.2.1.length ≤ 600000 → y.2.2.2.1.length ≤ 600000) ∧ (x.2.2.2.2 ≤ 7000000 → y.2.2.2.2 ≤ 7000000) := by
  unfold st1 at h
  split at h
  next hy => cases h; exact s0_len hy
  next =>
    split at h
    · split at h
      · cases h
      · split at h
        · split at h
          · split at h
            next he => cases h; have := hE _ _ _ _ _ _ he; exact this
            next => cases h
          · split at h
            next hy => cases h; have := sP_len hy; refine ⟨?_, ?_, ?_, ?_⟩ <;> dsimp only <;> omega
            next => cases h
        · cases h
    · cases h
theorem ex_mono (g : aPg) : ∀ f : Nat, gMono (ex g f) := by
  intro f
  induction f with
  | zero => intro d mi x r w' n' h; cases h
  | succ f ih =>
    intro d mi x r w' n' h
    unfold ex at h
    split at h
    · cases h
    · split at h
      · cases h
      · split at h
        next => cases h; exact ⟨Nat.le_refl _, Nat.le_refl _, fun z => z, fun z => z⟩
        next =>
          split at h
          next y hy =>
            have h1 := st1_len ih hy
            have h2 := ih _ _ _ _ _ _ h
            exact ⟨Nat.le_trans h1.1 h2.1, Nat.le_trans h1.2.1 h2.2.1, fun z => h2.2.2.1 (h1.2.2.1 z), fun z => h2.2.2.2 (h1.2.2.2 z)⟩
          next => cases h
theorem lg_aFl (ad : Nat → Nat) (av : List Value) : lg_sl (av.map (cV ad)) = (aFl av).map (fun o => match o with | some v => Slot.val (cV ad v) | none => Slot.second) := by
  induction av with
  | nil => rfl
  | cons v t ih =>
    show lg_sl (cV ad v :: t.map (cV ad)) = _
    have e1 : lg_sl (cV ad v :: t.map (cV ad)) = (if (cV ad v).category = 2 then [Slot.val (cV ad v), .second] else [.val (cV ad v)]) ++ lg_sl (t.map (cV ad)) := by simp [lg_sl]
    have e2 : aFl (v :: t) = (if v.category = 2 then [some v, none] else [some v]) ++ aFl t := by simp [aFl]
    rw [e1, e2, List.map_append, ih, cV_cat]
    by_cases h : v.category = 2 <;> simp [h]
theorem aEnt_has (ad : Nat → Nat) {mL : Nat} {av : List Value} (h : (aFl av).length ≤ mL) : aHas ad ((lg_sl (av.map (cV ad)) ++ List.replicate (mL - (lg_sl (av.map (cV ad))).length) Slot.unset).toArray) (aEnt mL av) := by
  have hn : (lg_sl (av.map (cV ad))).length = (aFl av).length := by rw [lg_aFl, List.length_map]
  obtain ⟨h1, h2, -⟩ := lv_entry (av.map (cV ad)) (n := mL) (by rw [hn]; exact h)
  refine ⟨?_, h2, fun i v hi => ?_⟩
  · rw [h1]
    simp [aEnt]
    omega
  · rw [hn, List.getElem?_toArray]
    unfold aEnt at hi
    by_cases hl : i < (aFl av).length
    · rw [List.getElem?_append_left hl] at hi
      rw [List.getElem?_append_left (by rw [hn]; exact hl), lg_aFl, List.getElem?_map, hi]
      rfl
    · rw [List.getElem?_append_right (by omega), List.getElem?_replicate] at hi
      split at hi <;> cases hi
