/-! ===== new cells ===== -/
def aMk (pc : Nat) (L : aL) (r : List Value) (w : aW) (n : Int32) (x : aC) : Option (aX × aW × Nat) := if n < 0 ∨ 100000 < n.toNatClampNeg ∨ 600000 ≤ w.length then none else some ((pc, L, .ref w.length :: r), w ++ [some x], n.toNatClampNeg)
theorem aMk_ok {pc : Nat} {L : aL} {r : List Value} {w : aW} {n : Int32} {x : aC} {y : aX × aW × Nat} (h : aMk pc L r w n x = some y) : ¬ n < 0 ∧ n.toNatClampNeg ≤ 100000 ∧ w.length < 600000 ∧ y = ((pc, L, .ref w.length :: r), w ++ [some x], n.toNatClampNeg) := by
  unfold aMk at h
  split at h
  next => cases h
  next q =>
    cases h
    exact ⟨fun z => q (Or.inl z), Nat.not_lt.mp fun z => q (Or.inr (Or.inl z)), Nat.not_le.mp fun z => q (Or.inr (Or.inr z)), rfl⟩
def sN (lk : aLk) (cl : List vw_C) (dfl : Nat → Option (List Value)) (oc : List String) (i : Instr) (pc : Nat) (L : aL) (S : List Value) (w : aW) : Option (aX × aW × Nat) := match i with
  | .new idx => match lk idx with
    | some (2, ci, _) => match dfl ci with
      | some fs => if 600000 ≤ w.length then none else some ((pc + 3, L, .ref w.length :: S), w ++ [some (.inr (ci, fs))], fs.length)
      | none => none
    | _ => none
  | .newarray .int => match S with
    | .int n :: r => aMk (pc + 2) L r w n (.inl (.int, .inl (List.replicate n.toNatClampNeg 0)))
    | _ => none
  | .newarray .char => match S with
    | .int n :: r => aMk (pc + 2) L r w n (.inl (.char, .inl (List.replicate n.toNatClampNeg 0)))
    | _ => none
  | .newarray .boolean => match S with
    | .int n :: r => aMk (pc + 2) L r w n (.inl (.boolean, .inl (List.replicate n.toNatClampNeg 0)))
    | _ => none
  | .newarray .long => match S with
    | .int n :: r => aMk (pc + 2) L r w n (.inl (.long, .inr (.inl (List.replicate n.toNatClampNeg 0))))
    | _ => none
  | .anewarray idx => match S with
    | .int n :: r => match lk idx with
      | some (2, ci, _) => match cl[ci]? with
        | some (C, _, _) => if C ∈ oc then aMk (pc + 3) L r w n (.inl (.object C, .inr (.inr (List.replicate n.toNatClampNeg none)))) else none
        | none => none
      | _ => none
    | _ => none
  | _ => none
def dfOk (cl : List vw_C) (ty : Nat → Nat → FieldType) (dfl : Nat → Option (List Value)) : Prop := ∀ ci fs, dfl ci = some fs → ∃ C T N, cl[ci]? = some (C, T, N) ∧ fs.length = N ∧ (∀ j, j < N → defaultValue (ty ci j) = vp_V fs j) ∧ ∀ ad, fs.map (cV ad) = fs
def arOk (Ts : List Cond) : Prop := Cond.arrayClass .int ∈ Ts ∧ Cond.arrayClass .long ∈ Ts ∧ Cond.arrayClass .char ∈ Ts ∧ Cond.arrayClass .boolean ∈ Ts
theorem getD_rep {α : Type} (n j : Nat) (d : α) : (List.replicate n d).getD j d = d := by
  simp [List.getD, List.getElem?_replicate]
  split <;> rfl
theorem vpc_i (ad : Nat → Nat) (k : ClassId) (n : Nat) : vp_cell k (cA ad (.inl (List.replicate n 0))) = arrV k n (fun _ => .int 0) := by
  show arrV k (List.replicate n (0 : Int32)).length (fun j => .int ((List.replicate n (0 : Int32)).getD j 0)) = _
  rw [List.length_replicate]
  congr 1
  funext j
  rw [getD_rep]
theorem vpc_l (ad : Nat → Nat) (k : ClassId) (n : Nat) : vp_cell k (cA ad (.inr (.inl (List.replicate n 0)))) = arrV k n (fun _ => .long 0) := by
  show arrV k (List.replicate n (0 : Int64)).length (fun j => .long ((List.replicate n (0 : Int64)).getD j 0)) = _
  rw [List.length_replicate]
  congr 1
  funext j
  rw [getD_rep]
section aNews
variable {p : Program} {l : Launch} {e : Env} {R : Room} {s : State} {m : MethodId} {args : Array Value} {below : List Frame} {meth : Method} {c : Code} {H : Heap} {locs : List Loc} {cells slots : Nat} {Q : State → Prop}
variable {cc : ByteArray} {pc : Nat} {ls : Array Slot} {ad : Nat → Nat} {L : aL} {S : List Value} {i : Instr}
variable {D : va_G} {cl : List vw_C} {tc : FieldType → ClassId} {w : aW} {N0 : Nat} {Ts : List Cond} {st : aXt} {lk : aLk} {ext : aEx} {oc : List String} {own : String} {ty : Nat → Nat → FieldType} {A : Nat → Prop} {dfl : Nat → Option (List Value)}
theorem va_S.grow {H1 : Heap} (hS : va_S A s.heap H locs) (hz : H1.size = H.size + 1) (o1 : ∀ q : Nat, q < H.size → H1[q]? = H[q]?) : va_S A s.heap H1 locs := ⟨Nat.le_trans hS.1 (by omega), fun x h1 h2 => (o1 x (Nat.lt_of_lt_of_le h1 hS.1)).trans (hS.2.1 x h1 h2), hS.2.2⟩
/-- a new array of plain values -/
theorem aNewP (hexec : p.tables.exec = Jvm.exec) (hb : c.code = cc) (hK : va_K D cl (aTys tc oc) s) (had : ∀ i, i < aK → ad i = N0 + i) (hsz : H.size = N0 + w.length) (hP : wP D cl tc ad w H) (hS : va_S A s.heap H locs)
    {atype : ArrayType} {t : FieldType} (hty : newarray.typeOf atype = t) (harr : (Cond.arrayClass t).before args s = true) (htm : t ∈ aTy oc) (hra : ∀ cA, va_RA s cA t → s.vm.findClass ("[" ++ t.toString) = some cA) (hcb : componentBytes t ≤ 8) {n : Int32} {r : List Value} {a0 : aA} (ha : ∀ k : ClassId, vp_cell k (cA ad a0) = arrV k n.toNatClampNeg (fun _ => defaultValue t))
    {y : aX × aW × Nat} (hy : aMk (pc + 2) L r w n (.inl (t, a0)) = some y) (hcells : cells + 1 ≤ R.cells) (hslots : slots + y.2.2 ≤ R.slots) (hdg : decode cc pc = .ok (.newarray atype, 2))
    (kk : ∀ H1 : Heap, H1.size = H.size + 1 → wP D cl tc ad y.2.1 H1 → va_S A s.heap H1 locs → W p l e R s m args below meth c H1 locs (cells + 1) (slots + y.2.2) Q (F0 m y.1.1 ls (y.1.2.2.map (cV ad)))) : W p l e R s m args below meth c H locs cells slots Q (F0 m pc ls (.int n :: r.map (cV ad))) := by
  subst hty
  obtain ⟨h1, h2, h3, rfl⟩ := aMk_ok hy
  obtain ⟨t0, ht0⟩ := aTys_at tc oc htm
  have hal : ad w.length = H.size := by rw [had _ (Nat.lt_trans h3 (by decide)), hsz]
  refine va_newaK hexec hb harr rfl hdg rfl h1 rfl (Nat.le_trans (Nat.mul_le_mul h2 hcb) (by decide)) hcells hslots rfl fun H1 k e1 z1 o1 hAr hNm => ?_
  have hk : k = tc (newarray.typeOf atype) := Option.some.inj (hNm.symm.trans (hra _ (hK.2 t0 _ ht0).2))
  subst hk
  have k2 := kk H1 z1 (hP.push o1 ?_) (hS.grow z1 o1)
  · rw [← hal]
    exact k2
  · show H1[ad w.length]? = some (vp_cell _ _)
    rw [hal, ha]
    exact e1
theorem sN_ok {x : aX × aW × Nat} (hexec : p.tables.exec = Jvm.exec) (hb : c.code = cc) (hdg : decode cc pc = .ok (i, iL i)) (hts : ∀ u ∈ Ts, u.before args s = true) (hown : s.vm.findClass own = some m.cls) (hcl : clOk cl Ts ty) (hlk : lkOk cl Ts st own lk) (hdf : dfOk cl ty dfl) (har : arOk Ts) (hAO : ∀ C ∈ oc, va_AO C s) (hK : va_K D cl (aTys tc oc) s) (had : ∀ i, i < aK → ad i = N0 + i) (hsz : H.size = N0 + w.length) (hP : wP D cl tc ad w H) (hS : va_S A s.heap H locs) (hl : aHas ad ls L) (h : sN lk cl dfl oc i pc L S w = some x) (hcells : cells + 1 ≤ R.cells) (hslots : slots + x.2.2 ≤ R.slots)
    (kk : ∀ (ls : Array Slot) (H1 : Heap), aHas ad ls x.1.2.1 → H1.size = H.size + 1 → wP D cl tc ad x.2.1 H1 → va_S A s.heap H1 locs → W p l e R s m args below meth c H1 locs (cells + 1) (slots + x.2.2) Q (F0 m x.1.1 ls (x.1.2.2.map (cV ad)))) : W p l e R s m args below meth c H locs cells slots Q (F0 m pc ls (S.map (cV ad))) := by
  unfold sN at h
  split at h
  · split at h
    next ci z hi =>
      split at h
      next fs hfs =>
        split at h
        next => cases h
        next q =>
          cases h
          obtain ⟨C, T, N, hc, hlink, hinst, hini⟩ := hlk.2.2.2.2.1 _ _ _ hi
          obtain ⟨C', T', N', hc', hN, hd, hm⟩ := hdf ci fs hfs
          cases hc.symm.trans hc'
          subst hN
          obtain ⟨hin, hty, -⟩ := hcl ci _ _ _ hc
          have hKn := hK.1 ci _ hc
          have hal : ad w.length = H.size := by rw [had _ (Nat.lt_trans (Nat.not_le.mp q) (by decide)), hsz]
          refine W.newcK hexec hb hown (hts _ hlink) (hts _ hinst) (hts _ hini) rfl hdg hcells hslots hKn.2.1 rfl fun H1 kC hkC e1 z1 o1 => ?_
          have k2 := kk ls H1 hl z1 (hP.push o1 ?_) (hS.grow z1 o1)
          · rw [← hal]
            exact k2
          · rw [hal]
            refine ⟨_, hc, ?_⟩
            show t_OB H.size (D.1 ci) fs.length (D.2 ci) H1 (vp_V (fs.map (cV ad)))
            rw [hm]
            exact (u_born (ty ci) hts hin hKn hkC e1 hty).to hd
      next => cases h
    next => cases h
  · split at h
    next =>
      have hy := h
      obtain ⟨-, -, -, rfl⟩ := aMk_ok hy
      exact aNewP (atype := .int) (t := .int) hexec hb hK had hsz hP hS rfl (hts _ har.1) (aTy_i oc) (fun _ z => z) (by decide) (fun k => vpc_i ad k _) hy hcells hslots hdg (fun H1 => kk ls H1 hl)
    next => cases h
  · split at h
    next =>
      have hy := h
      obtain ⟨-, -, -, rfl⟩ := aMk_ok hy
      exact aNewP (atype := .char) (t := .char) hexec hb hK had hsz hP hS rfl (hts _ har.2.2.1) (aTy_c oc) (fun _ z => z) (by decide) (fun k => vpc_i ad k _) hy hcells hslots hdg (fun H1 => kk ls H1 hl)
    next => cases h
  · split at h
    next =>
      have hy := h
      obtain ⟨-, -, -, rfl⟩ := aMk_ok hy
      exact aNewP (atype := .boolean) (t := .boolean) hexec hb hK had hsz hP hS rfl (hts _ har.2.2.2) (aTy_z oc) (fun _ z => z) (by decide) (fun k => vpc_i ad k _) hy hcells hslots hdg (fun H1 => kk ls H1 hl)
    next => cases h
  · split at h
    next =>
      have hy := h
      obtain ⟨-, -, -, rfl⟩ := aMk_ok hy
      exact aNewP (atype := .long) (t := .long) hexec hb hK had hsz hP hS rfl (hts _ har.2.1) (aTy_l oc) (fun _ z => z) (by decide) (fun k => vpc_l ad k _) hy hcells hslots hdg (fun H1 => kk ls H1 hl)
    next => cases h
  · split at h
    next n r =>
      split at h
      next ci z hi =>
        split at h
        next C T0 N1 hc0 =>
          split at h
          next hCo =>
            obtain ⟨h1, h2, h3, rfl⟩ := aMk_ok h
            obtain ⟨C2, T, N, hc, hlink, -, -⟩ := hlk.2.2.2.2.1 _ _ _ hi
            cases hc.symm.trans hc0
            obtain ⟨t0, ht0⟩ := aTys_at tc oc (aTy_o hCo)
            have hal : ad w.length = H.size := by rw [had _ (Nat.lt_trans h3 (by decide)), hsz]
            refine W.anew hexec hb hown (hts _ hlink) (va_AO.use (hAO C hCo)) rfl hdg rfl h1 (Nat.le_trans (Nat.mul_le_mul_right 4 h2) (by decide)) hcells hslots fun k kA comp f1 f2 f3 f4 => ?_
            obtain ⟨kA', comp', g1, g2, g3, g4⟩ := (hK.2 t0 _ ht0).2
            have hk : k = tc (.object C) := Option.some.inj (f1.symm.trans g4)
            subst hk
            generalize hH1 : H.push ({ cls := tc (.object C), slots := Array.replicate n.toNatClampNeg .null, vm := .none } : Cell) = H1
            have z1 : H1.size = H.size + 1 := by rw [← hH1, Array.size_push]
            have e1 : H1[H.size]? = some (arrV (tc (.object C)) n.toNatClampNeg (fun _ => .null)) := by rw [← hH1, Array.getElem?_push_size, ← arrV_new]
            have o1 : ∀ q : Nat, q < H.size → H1[q]? = H[q]? := fun q hq => by rw [← hH1, Array.getElem?_push, if_neg (Nat.ne_of_lt hq)]
            have k2 := kk ls H1 hl z1 (hP.push o1 ?_) (hS.grow z1 o1)
            · rw [← hal]
              exact k2
            · show H1[ad w.length]? = some (arrV (tc (.object C)) (List.replicate n.toNatClampNeg (none : Option Nat)).length (fun j => va_rf (((List.replicate n.toNatClampNeg (none : Option Nat)).getD j none).map ad)))
              rw [hal, List.length_replicate, e1]
              congr 2
              funext j
              rw [getD_rep]
              rfl
          next => cases h
        next => cases h
      next => cases h
    next => cases h
  · cases h
end aNews
