/-! ===== the small machine's stores and new cells ===== -/
def okP : FieldType → Value → Bool
  | .int, .int _ => true
  | .long, .long _ => true
  | .boolean, .int x => x == 0 || x == 1
  | .object _, .ref _ => true
  | .object _, .null => true
  | .array _, .ref _ => true
  | .array _, .null => true
  | _, _ => false
theorem okP_ok {ad : Nat → Nat} {t : FieldType} {v : Value} (h : okP t v = true) : narrow t (cV ad v) = cV ad v ∧ fits t (cV ad v) = true := by
  unfold okP at h
  split at h
  all_goals first | exact ⟨rfl, rfl⟩ | skip
  · next x =>
    simp only [Bool.or_eq_true, beq_iff_eq] at h
    rcases h with rfl | rfl
    · exact (⟨by decide, by decide⟩ : narrow .boolean (.int 0) = .int 0 ∧ fits .boolean (.int 0) = true)
    · exact (⟨by decide, by decide⟩ : narrow .boolean (.int 1) = .int 1 ∧ fits .boolean (.int 1) = true)
  · cases h
def aPt (ty : Nat → Nat → FieldType) (w : aW) (a ci k : Nat) (v : Value) : Option aW := match w[a]? with
  | some (some (.inr (ci', fs))) => if ci' = ci ∧ k < fs.length ∧ okP (ty ci k) v = true then some (w.set a (some (.inr (ci, fs.set k v)))) else none
  | _ => none
theorem aPt_ok {ty : Nat → Nat → FieldType} {w w' : aW} {a ci k : Nat} {v : Value} (h : aPt ty w a ci k v = some w') : ∃ fs, w[a]? = some (some (.inr (ci, fs))) ∧ k < fs.length ∧ okP (ty ci k) v = true ∧ w' = w.set a (some (.inr (ci, fs.set k v))) := by
  unfold aPt at h
  split at h
  next ci' fs hw =>
    split at h
    next q =>
      obtain ⟨q1, q2, q3⟩ := q
      subst q1
      cases h
      exact ⟨fs, hw, q2, q3, rfl⟩
    next => cases h
  next => cases h
/-- fields and array elements are written -/
def sM (lk : aLk) (ini : Bool) (cl : List vw_C) (ty : Nat → Nat → FieldType) (oc : List String) (i : Instr) (pc : Nat) (L : aL) (S : List Value) (w : aW) : Option (aX × aW) := match i with
  | .putfield idx => match S with
    | v :: .ref a :: r => match lk idx with
      | some (0, ci, k) => match aPt ty w a ci k.toNat v with
        | some w' => some ((pc + 3, L, r), w')
        | none => none
      | some (6, ci, k) => if ini = true then match aPt ty w a ci k.toNat v with
        | some w' => some ((pc + 3, L, r), w')
        | none => none else none
      | _ => none
    | _ => none
  | .iastore => match S with
    | .int y :: .int j :: .ref a :: r => match w[a]? with
      | some (some (.inl (.int, .inl xs))) => if j < 0 ∨ xs.length ≤ j.toNatClampNeg then none else some ((pc + 1, L, r), w.set a (some (.inl (.int, .inl (xs.set j.toNatClampNeg y)))))
      | _ => none
    | _ => none
  | .bastore => match S with
    | .int y :: .int j :: .ref a :: r => match w[a]? with
      | some (some (.inl (.boolean, .inl xs))) => if j < 0 ∨ xs.length ≤ j.toNatClampNeg then none else some ((pc + 1, L, r), w.set a (some (.inl (.boolean, .inl (xs.set j.toNatClampNeg (y &&& 1))))))
      | _ => none
    | _ => none
  | .castore => match S with
    | .int y :: .int j :: .ref a :: r => match w[a]? with
      | some (some (.inl (.char, .inl xs))) => if j < 0 ∨ xs.length ≤ j.toNatClampNeg then none else some ((pc + 1, L, r), w.set a (some (.inl (.char, .inl (xs.set j.toNatClampNeg (y.toUInt32.toUInt16.toUInt32.toInt32))))))
      | _ => none
    | _ => none
  | .lastore => match S with
    | .long y :: .int j :: .ref a :: r => match w[a]? with
      | some (some (.inl (.long, .inr (.inl xs)))) => if j < 0 ∨ xs.length ≤ j.toNatClampNeg then none else some ((pc + 1, L, r), w.set a (some (.inl (.long, .inr (.inl (xs.set j.toNatClampNeg y))))))
      | _ => none
    | _ => none
  | .aastore => match S with
    | .ref v :: .int j :: .ref a :: r => match w[a]? with
      | some (some (.inl (.object C, .inr (.inr xs)))) => match w[v]? with
        | some (some (.inr (ci, _))) => match cl[ci]? with
          | some (C', _, _) => if (j < 0 ∨ xs.length ≤ j.toNatClampNeg) ∨ ¬ C ∈ oc ∨ ¬ C' = C then none else some ((pc + 1, L, r), w.set a (some (.inl (.object C, .inr (.inr (xs.set j.toNatClampNeg (some v)))))))
          | none => none
        | _ => none
      | _ => none
    | _ => none
  | _ => none
section aStores
variable {p : Program} {l : Launch} {e : Env} {R : Room} {s : State} {m : MethodId} {args : Array Value} {below : List Frame} {meth : Method} {c : Code} {H : Heap} {locs : List Loc} {cells slots : Nat} {Q : State → Prop}
variable {cc : ByteArray} {pc : Nat} {ls : Array Slot} {ad : Nat → Nat} {L : aL} {S : List Value} {i : Instr}
variable {D : va_G} {cl : List vw_C} {tc : FieldType → ClassId} {w : aW} {N0 : Nat} {Ts : List Cond} {st : aXt} {lk : aLk} {ext : aEx} {oc : List String} {own : String} {ty : Nat → Nat → FieldType} {A : Nat → Prop}
theorem getD_set {α : Type} (xs : List α) (k : Nat) (y d : α) (hk : k < xs.length) (q : Nat) : (xs.set k y).getD q d = if q = k then y else xs.getD q d := by
  by_cases h : q = k
  · subst h
    simp [List.getD, hk]
  · simp [List.getD, h, List.getElem?_set_ne (Ne.symm h)]
theorem aStI {H1 : Heap} {a k : Nat} {cI : ClassId} {xs : List Int32} {y : Int32} (hk : k < xs.length) (e : H1[a]? = some ((vp_cell cI (cA ad (.inl xs))).setSlot k (.int y))) : H1[a]? = some (vp_cell cI (cA ad (.inl (xs.set k y)))) := by
  rw [e]
  show some ((arrV cI xs.length (fun j => .int (xs.getD j 0))).setSlot k (.int y)) = some (arrV cI (xs.set k y).length (fun j => .int ((xs.set k y).getD j 0)))
  rw [arrV_store, List.length_set]
  congr 2
  funext q
  rw [getD_set _ _ _ _ hk]
  by_cases hq : q = k
  · subst hq; simp [updV]
  · simp [updV, hq]
theorem aStL {H1 : Heap} {a k : Nat} {cI : ClassId} {xs : List Int64} {y : Int64} (hk : k < xs.length) (e : H1[a]? = some ((vp_cell cI (cA ad (.inr (.inl xs)))).setSlot k (.long y))) : H1[a]? = some (vp_cell cI (cA ad (.inr (.inl (xs.set k y))))) := by
  rw [e]
  show some ((arrV cI xs.length (fun j => .long (xs.getD j 0))).setSlot k (.long y)) = some (arrV cI (xs.set k y).length (fun j => .long ((xs.set k y).getD j 0)))
  rw [arrV_store, List.length_set]
  congr 2
  funext q
  rw [getD_set _ _ _ _ hk]
  by_cases hq : q = k
  · subst hq; simp [updV]
  · simp [updV, hq]
theorem aStR {H1 : Heap} {a k v : Nat} {cI : ClassId} {xs : List (Option Nat)} (hk : k < xs.length) (e : H1[a]? = some ((vp_cell cI (cA ad (.inr (.inr xs)))).setSlot k (.ref (ad v)))) : H1[a]? = some (vp_cell cI (cA ad (.inr (.inr (xs.set k (some v)))))) := by
  rw [e]
  show some ((arrV cI xs.length (fun j => va_rf ((xs.getD j none).map ad))).setSlot k (.ref (ad v))) = some (arrV cI (xs.set k (some v)).length (fun j => va_rf (((xs.set k (some v)).getD j none).map ad)))
  rw [arrV_store, List.length_set]
  congr 2
  funext q
  rw [getD_set _ _ _ _ hk]
  by_cases hq : q = k
  · subst hq; simp [updV, va_rf]
  · simp [updV, hq]
theorem aPut_ok (hexec : p.tables.exec = Jvm.exec) (hb : c.code = cc) (hts : ∀ u ∈ Ts, u.before args s = true) (hown : s.vm.findClass own = some m.cls) (hcl : clOk cl Ts ty) (hlk : lkOk cl Ts st own lk) (hK : va_K D cl (aTys tc oc) s) (had : ∀ i, i < aK → ad i = N0 + i) (hAd : ∀ i, i < aK → A (ad i)) (hlen : w.length ≤ aK) (hP : wP D cl tc ad w H) (hS : va_S A s.heap H locs)
    {idx t ci a : Nat} {k : Int} {v : Value} {r : List Value} {w' : aW} (hi : lk idx = some (t, ci, k)) (ht : t = 0 ∨ (t = 6 ∧ meth.name = "<init>")) (hv : aPt ty w a ci k.toNat v = some w') (hdg : decode cc pc = .ok (.putfield idx, 3))
    (kk : ∀ (H1 : Heap) (locs1 : List Loc), H1.size = H.size → wP D cl tc ad w' H1 → va_S A s.heap H1 locs1 → W p l e R s m args below meth c H1 locs1 cells slots Q (F0 m (pc + 3) ls (r.map (cV ad)))) : W p l e R s m args below meth c H locs cells slots Q (F0 m pc ls (cV ad v :: .ref (ad a) :: r.map (cV ad))) := by
  obtain ⟨fs, hw, hkl, hok, rfl⟩ := aPt_ok hv
  obtain ⟨C, T, N, hc, hkN, hfin, hfo, hlink⟩ := hlk.1 idx t ci k hi (by rcases ht with z | z; exact Or.inl z; exact Or.inr (Or.inl z.1))
  obtain ⟨hin, hty, hnm⟩ := hcl ci C T N hc
  obtain ⟨hn, hfit⟩ := okP_ok (ad := ad) hok
  have hal : a < aK := Nat.lt_of_lt_of_le (List.getElem?_eq_some_iff.mp hw).1 hlen
  have hap := va_apart (own := own) hts hin (ty ci) hty hnm hK hc
  obtain ⟨r0, h1, cell, q1, q2, q3, q4⟩ := hP a _ hw
  have hr : r0 = (C, T, N) := Option.some.inj (h1.symm.trans hc)
  subst hr
  obtain ⟨hSl, hfc, kC, hkC, hkind⟩ := hK.1 ci _ hc
  obtain ⟨cf, kf, fi, f, hif, hsl⟩ := hSl k.toNat hkN
  have hlay := hts _ (hin _ (u_in_lay hkN))
  have hst := (u_facts hfc hkC (u_lays hts hin hkN) hif).1
  have fin : ∀ H' : Heap, H'[ad a]? = some (cell.setSlot f.slot (cV ad v)) → H'.size = H.size → (∀ q, q ≠ ad a → H'[q]? = H[q]?) → W p l e R s m args below meth c H' (locs ++ [⟨ad a, f.slot⟩]) cells slots Q (F0 m (pc + 3) ls (r.map (cV ad))) := by
    intro H' e1 e2 e3
    refine kk H' _ e2 (hP.set had hlen hw ?_ e3) (hS.put e2 e3 (hAd a hal))
    rw [hsl] at e1
    refine ⟨_, hc, t_OB.to (V := updV (vp_V (fs.map (cV ad))) k.toNat (cV ad v)) ⟨_, e1, q2, q3, t_set q4 hap hkN (cV ad v)⟩ (fun j _ => ?_)⟩
    rw [vp_updV_set (by rw [List.length_map]; exact hkl)]
    show vp_V _ j = vp_V ((fs.set k.toNat v).map (cV ad)) j
    rw [List.map_set]
  rcases ht with ht | ⟨ht, hini⟩
  · subst ht
    unfold u_lay at hlay
    rw [if_neg (by rw [hfin (by decide)]; decide)] at hlay
    have h6 := u_store hfc hkC hkind hlay hif (hty _ hkN) hn hfit
    exact W.putK hexec hb (f := f) ⟨hown, hts _ hlink, ⟨_, _, _, hif⟩, hst⟩ (by rw [q2]; exact h6) q1 q3 (by rw [hsl]; exact k2_hasslot (q4 _ hkN)) rfl rfl hdg fin
  · subst ht
    unfold u_lay at hlay
    rw [if_pos (by rw [hfin (by decide)]; decide)] at hlay
    have hcf : m.cls = cf := by
      obtain ⟨_, _, c', _, _, _, -, -, hf', -, -, -, hown2, -⟩ := Cond.laysFinal_spec hlay
      have e1 : c' = cf := by have := hif.symm.trans hf'; simp at this; exact this.1.symm
      rw [hfo (by decide)] at hown2
      rw [← e1]; exact Option.some.inj (hown.symm.trans hown2)
    have h6 := u_fits hfc hkC hkind (Or.inr hlay) hif (hty _ hkN) hn hfit
    exact W.putFinK hexec hb hown (hts _ hlink) hif hst hcf hini (by rw [q2]; exact h6) q1 q3 (by rw [hsl]; exact k2_hasslot (q4 _ hkN)) rfl rfl hdg fin
theorem sM_ok {x : aX × aW} {ini : Bool} (hexec : p.tables.exec = Jvm.exec) (hb : c.code = cc) (hdg : decode cc pc = .ok (i, iL i)) (hts : ∀ u ∈ Ts, u.before args s = true) (hown : s.vm.findClass own = some m.cls) (hini : ini = true → meth.name = "<init>") (hcl : clOk cl Ts ty) (hlk : lkOk cl Ts st own lk) (hK : va_K D cl (aTys tc oc) s) (had : ∀ i, i < aK → ad i = N0 + i) (hAd : ∀ i, i < aK → A (ad i)) (hlen : w.length ≤ aK) (hP : wP D cl tc ad w H) (hS : va_S A s.heap H locs) (hl : aHas ad ls L) (h : sM lk ini cl ty oc i pc L S w = some x)
    (kk : ∀ (ls : Array Slot) (H1 : Heap) (locs1 : List Loc), aHas ad ls x.1.2.1 → H1.size = H.size → x.2.length = w.length → wP D cl tc ad x.2 H1 → va_S A s.heap H1 locs1 → W p l e R s m args below meth c H1 locs1 cells slots Q (F0 m x.1.1 ls (x.1.2.2.map (cV ad)))) : W p l e R s m args below meth c H locs cells slots Q (F0 m pc ls (S.map (cV ad))) := by
  unfold sM at h
  split at h
  · split at h
    next =>
      split at h
      next hi =>
        split at h
        next w' hv => 
          cases h
          exact aPut_ok hexec hb hts hown hcl hlk hK had hAd hlen hP hS hi (Or.inl rfl) hv hdg (fun H1 locs1 z1 z2 z3 => kk ls H1 locs1 hl z1 (by obtain ⟨fs, -, -, -, z⟩ := aPt_ok hv; rw [z, List.length_set]) z2 z3)
        next => cases h
      next hi =>
        split at h
        next hq =>
          split at h
          next w' hv => 
            cases h
            exact aPut_ok hexec hb hts hown hcl hlk hK had hAd hlen hP hS hi (Or.inr ⟨rfl, hini hq⟩) hv hdg (fun H1 locs1 z1 z2 z3 => kk ls H1 locs1 hl z1 (by obtain ⟨fs, -, -, -, z⟩ := aPt_ok hv; rw [z, List.length_set]) z2 z3)
          next => cases h
        next => cases h
      next => cases h
    next => cases h
  · split at h
    next y j a r =>
      split at h
      next xs hw =>
        split at h
        next => cases h
        next q =>
          cases h
          obtain ⟨t0, ht0⟩ := aTys_at tc oc (aTy_i oc)
          have hal : a < aK := Nat.lt_of_lt_of_le (List.getElem?_eq_some_iff.mp hw).1 hlen
          refine W.iast hexec hb (hP a _ hw) ((hK.2 t0 _ ht0).1 xs.length (fun j => .int (xs.getD j 0))) (fun q => by cases q) (by show ¬ (j < 0 ∨ (arrV _ _ _).slots.size ≤ _); rw [arrV_size]; exact q) rfl rfl hdg fun H1 e z oq => ?_
          exact kk ls H1 _ hl z (List.length_set ..) (hP.set had hlen hw (aStI (ad := ad) (Nat.not_le.mp fun z => q (Or.inr z)) e) oq) (hS.put z oq (hAd a hal))
      next => cases h
    next => cases h
  · split at h
    next y j a r =>
      split at h
      next xs hw =>
        split at h
        next => cases h
        next q =>
          cases h
          obtain ⟨t0, ht0⟩ := aTys_at tc oc (aTy_z oc)
          have hal : a < aK := Nat.lt_of_lt_of_le (List.getElem?_eq_some_iff.mp hw).1 hlen
          refine W.zast hexec hb (hP a _ hw) ((hK.2 t0 _ ht0).1 xs.length (fun j => .int (xs.getD j 0))) (fun q => by cases q) (by show ¬ (j < 0 ∨ (arrV _ _ _).slots.size ≤ _); rw [arrV_size]; exact q) rfl rfl hdg fun H1 e z oq => ?_
          exact kk ls H1 _ hl z (List.length_set ..) (hP.set had hlen hw (aStI (ad := ad) (Nat.not_le.mp fun z => q (Or.inr z)) e) oq) (hS.put z oq (hAd a hal))
      next => cases h
    next => cases h
  · split at h
    next y j a r =>
      split at h
      next xs hw =>
        split at h
        next => cases h
        next q =>
          cases h
          obtain ⟨t0, ht0⟩ := aTys_at tc oc (aTy_c oc)
          have hal : a < aK := Nat.lt_of_lt_of_le (List.getElem?_eq_some_iff.mp hw).1 hlen
          refine W.cast hexec hb (hP a _ hw) ((hK.2 t0 _ ht0).1 xs.length (fun j => .int (xs.getD j 0))) (fun q => by cases q) (by show ¬ (j < 0 ∨ (arrV _ _ _).slots.size ≤ _); rw [arrV_size]; exact q) rfl rfl hdg fun H1 e z oq => ?_
          exact kk ls H1 _ hl z (List.length_set ..) (hP.set had hlen hw (aStI (ad := ad) (Nat.not_le.mp fun z => q (Or.inr z)) e) oq) (hS.put z oq (hAd a hal))
      next => cases h
    next => cases h
  · split at h
    next y j a r =>
      split at h
      next xs hw =>
        split at h
        next => cases h
        next q =>
          cases h
          obtain ⟨t0, ht0⟩ := aTys_at tc oc (aTy_l oc)
          have hal : a < aK := Nat.lt_of_lt_of_le (List.getElem?_eq_some_iff.mp hw).1 hlen
          refine W.last hexec hb (hP a _ hw) ((hK.2 t0 _ ht0).1 xs.length (fun j => .long (xs.getD j 0))) (fun q => by cases q) (by show ¬ (j < 0 ∨ (arrV _ _ _).slots.size ≤ _); rw [arrV_size]; exact q) rfl rfl hdg fun H1 e z oq => ?_
          exact kk ls H1 _ hl z (List.length_set ..) (hP.set had hlen hw (aStL (ad := ad) (Nat.not_le.mp fun z => q (Or.inr z)) e) oq) (hS.put z oq (hAd a hal))
      next => cases h
    next => cases h
  · split at h
    next v j a r =>
      split at h
      next C xs hw =>
        split at h
        next ci fs hwv =>
          split at h
          next C' T' N' hci =>
            split at h
            next => cases h
            next q =>
              cases h
              have hCo : C ∈ oc := Classical.not_not.mp fun z => q (Or.inr (Or.inl z))
              have hCC : C' = C := Classical.not_not.mp fun z => q (Or.inr (Or.inr z))
              have hin : ¬ (j < 0 ∨ xs.length ≤ j.toNatClampNeg) := fun z => q (Or.inl z)
              subst hCC
              obtain ⟨t0, ht0⟩ := aTys_at tc oc (aTy_o hCo)
              have hal : a < aK := Nat.lt_of_lt_of_le (List.getElem?_eq_some_iff.mp hw).1 hlen
              obtain ⟨r', hr', cellV, g1, g2, g3, -⟩ := hP v _ hwv
              have hcls := (hK.1 ci _ hci).2
              obtain ⟨kA, comp, k1, k2, k3, -⟩ := (hK.2 t0 _ ht0).2
              have hcomp : comp = D.1 ci := Option.some.inj (k3.symm.trans hcls.1)
              subst hcomp
              obtain ⟨kC, hkC, -⟩ := hcls.2
              refine W.aast hexec hb (hP a _ hw) (fun q h => by cases h) (fun h => by cases h) k1 k2 rfl hkC ⟨fun z => hin (Or.inl z), by show _ < (arrV _ _ _).slots.size; rw [arrV_size]; exact Nat.not_le.mp fun z => hin (Or.inr z)⟩ g1 (fun q h => by rw [g3] at h; cases h) (by rw [g2]; exact hkC) (by rw [g2]; exact va_assign hcls) rfl rfl hdg fun H1 e z oq => ?_
              refine kk ls H1 _ hl z (List.length_set ..) (hP.set had hlen hw ?_ oq) (hS.put z oq (hAd a hal))
              exact aStR (ad := ad) (Nat.not_le.mp fun z => hin (Or.inr z)) e
          next => cases h
        next => cases h
      next => cases h
    next => cases h
  · cases h
end aStores
