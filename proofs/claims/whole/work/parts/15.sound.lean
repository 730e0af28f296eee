/-! ===== what the small machine answers, the machine answers ===== -/
def mOk (g : aPg) (Ts : List Cond) (st : aXt) (k : Nat) (q : aMI) : Prop :=
  plainName q.1.cls = true ∧ (k ≠ 0 → Cond.code q.1 q.2.1 q.2.2.1 q.2.2.2.1 ∈ Ts) ∧ Cond.initialized q.1.cls ∈ Ts ∧ (q.1.cls ≠ "java/lang/invoke/MethodHandle" ∧ q.1.cls ≠ "java/lang/invoke/VarHandle" ∧ (parseMethodDescriptor q.1.desc).map (fun d => d.parameters.length) = some q.2.2.2.2.1) ∧ q.2.2.1 ≤ 80 ∧ (q.2.2.2.2.2.2 = true → q.1.name = "<init>") ∧
  (∀ pc i len, pC g k pc = some (i, len) → decode q.2.1 pc = .ok (i, len)) ∧ lkOk (pK g) Ts st q.1.cls (pL g k) ∧
  (∀ idx k' z q', pL g k idx = some (1, k', z) → pI g k' = some q' → k' ≠ 0 ∧
    (z = 0 → Cond.methodLink q.1.cls idx q'.1 ∈ Ts ∧ Cond.static q'.1 ∈ Ts) ∧
    (z = 1 → Cond.methodLink q.1.cls idx q'.1 ∈ Ts ∧ Cond.instanceMethod q'.1 ∈ Ts ∧ Cond.selects q'.1.cls q'.1 q'.1 ∈ Ts ∧ ∃ T N, (pK g)[q'.2.2.2.2.2.1]? = some (q'.1.cls, T, N)) ∧
    (z = 2 → Cond.methodLink q.1.cls idx q'.1 ∈ Ts ∧ Cond.instanceMethod q'.1 ∈ Ts ∧ q'.1.name = "<init>" ∧ q'.2.2.2.1 = none) ∧
    (z = 3 → (∃ host, (q.1.cls, idx, q'.1, host) ∈ st.2.1) ∧ Cond.instanceMethod q'.1 ∈ Ts ∧ q'.1.name = "<init>" ∧ q'.2.2.2.1 = none) ∧
    (z = 4 → Cond.methodLink q.1.cls idx q'.1 ∈ Ts ∧ Cond.instanceMethod q'.1 ∈ Ts ∧ Cond.selects q'.1.cls q'.1 q'.1 ∈ Ts ∧ q'.1.cls = "java/lang/String"))
def pgOk (g : aPg) (Ts : List Cond) (st : aXt) : Prop := (∀ u ∈ Ts, goodWord u = true) ∧ clOk (pK g) Ts (pT g) ∧ dfOk (pK g) (pT g) (pD g) ∧ arOk Ts ∧ cpOk Ts ∧ ∀ k q, pI g k = some q → mOk g Ts st k q
/-- a method's start and end, by worlds -/
def cPc (g : aPg) (st : aXt) (D : va_G) (tc : FieldType → ClassId) (ad : Nat → Nat) (N0 : Nat) (w : aW) (U : State) : Prop := va_K D (pK g) (aTys tc (pO g)) U ∧ eX (fun z => N0 ≤ z) ad st (pE g) (pS g) (pO g) U U.heap ∧ U.heap.size = N0 + w.length ∧ wP D (pK g) tc ad w U.heap
def cQc (g : aPg) (D : va_G) (tc : FieldType → ClassId) (ad : Nat → Nat) (N0 : Nat) (r : Option Value) (w : aW) : Array Value → State → Outcome → State → Prop := fun _ st o t => o = .returned (r.map (cV ad)) ∧ t.heap.size = N0 + w.length ∧ wP D (pK g) tc ad w t.heap ∧ va_F (fun z => N0 ≤ z) st t
def rmO (d mc ms : Nat) : Room := { frames := d, cells := mc, slots := ms, locals := d * 100 }
def ExW (g : aPg) (Ts : List Cond) (st : aXt) (D : va_G) (tc : FieldType → ClassId) (ad : Nat → Nat) (N0 : Nat) (l : Launch) (f : Nat) : Prop :=
  ∀ (d mi : Nat) (x : aS) (r : Option Value) (w' : aW) (n' : Nat) (q : aMI), ex g f d mi x = some (r, w', n') → pI g mi = some q → x.2.2.2.1.length ≤ 600000 →
  ∀ (p : Program) (e : Env) (R : Room) (s : State) (m : MethodId) (args : Array Value) (below : List Frame) (meth : Method) (c : Code) (H : Heap) (locs : List Loc) (cells slots c0 n0 : Nat) (Q : State → Prop) (ls : Array Slot),
  p.tables.exec = Jvm.exec → c.code = q.2.1 → c.maxLocals = q.2.2.1 → (∀ u ∈ Ts, u.before args s = true) → s.vm.findClass q.1.cls = some m.cls → (q.2.2.2.2.2.2 = true → meth.name = "<init>") → va_K D (pK g) (aTys tc (pO g)) s → eX (fun z => N0 ≤ z) ad st (pE g) (pS g) (pO g) s s.heap →
  d ≤ R.frames → d * 100 ≤ R.locals → cells + c0 = x.2.2.2.1.length → slots + n0 = x.2.2.2.2 → w'.length ≤ R.cells + c0 → n' ≤ R.slots + n0 → H.size = N0 + x.2.2.2.1.length → wP D (pK g) tc ad x.2.2.2.1 H → va_S (fun z => N0 ≤ z) s.heap H locs → aHas ad ls x.2.1 →
  (∀ (H1 : Heap) (locs1 : List Loc) (cells1 slots1 pc1 : Nat) (ls1 : Array Slot) (S1 : List Value) (i : Instr), cells1 + c0 = w'.length → slots1 + n0 = n' → H1.size = N0 + w'.length → wP D (pK g) tc ad w' H1 → va_S (fun z => N0 ≤ z) s.heap H1 locs1 → decode q.2.1 pc1 = .ok (i, iL i) → sR q.2.2.2.1 i S1 = some r → W p l e R s m args below meth c H1 locs1 cells1 slots1 Q (F0 m pc1 ls1 (S1.map (cV ad)))) →
  W p l e R s m args below meth c H locs cells slots Q (F0 m x.1 ls (x.2.2.1.map (cV ad)))
section aSound
variable {p : Program} {l : Launch} {e : Env} {R : Room} {s : State} {m : MethodId} {args : Array Value} {below : List Frame} {meth : Method} {c : Code} {H : Heap} {locs : List Loc} {cells slots : Nat} {Q : State → Prop}
variable {cc : ByteArray} {pc : Nat} {ls : Array Slot} {ad : Nat → Nat} {N0 : Nat}
theorem sR_ok {ret : Option FieldType} {i : Instr} {S : List Value} {r : Option Value} {Qc : Array Value → State → Outcome → State → Prop} {free : Addr → Prop} (hexec : p.tables.exec = Jvm.exec) (hb : c.code = cc) (hr : meth.sig.returnType = ret) (hlocks : meth.locks = false) (hdg : decode cc pc = .ok (i, iL i)) (h : sR ret i S = some r)
    (hq : ∀ t : State, t.heap = H → s.WarmedH t.vm → Qc args s (.returned (r.map (cV ad))) t) (hf : ∀ q ∈ locs, free q.base) : W p l e R s m args below meth c H locs cells slots (MQ below Qc args s cells slots free) (F0 m pc ls (S.map (cV ad))) := by
  unfold sR at h
  split at h
  · split at h
    next v =>
      split at h
      · cases h; exact W.iret hexec hb hr hq hf hdg hlocks
      · split at h
        next z => cases h; exact W.zret hexec hb hr (by rcases z with rfl | rfl <;> decide) hq hf hdg hlocks
        next => cases h
      · split at h
        next z => cases h; exact W.zret hexec hb hr (congrArg Value.int z) hq hf hdg hlocks
        next => cases h
      · split at h
        next z => cases h; exact W.zret hexec hb hr (congrArg Value.int z) hq hf hdg hlocks
        next => cases h
      · cases h
    next => cases h
  · split at h
    next v =>
      split at h
      · cases h; exact W.lret hexec hb hr hq hf hdg hlocks
      · cases h
    next => cases h
  · split at h
    next a =>
      split at h
      · cases h; exact W.aret hexec hb hr (Or.inl ⟨_, rfl⟩) (Or.inr ⟨_, rfl⟩) hq hf hdg hlocks
      · cases h; exact W.aret hexec hb hr (Or.inr ⟨_, rfl⟩) (Or.inr ⟨_, rfl⟩) hq hf hdg hlocks
      · cases h
    next =>
      split at h
      · cases h; exact W.aret hexec hb hr (Or.inl ⟨_, rfl⟩) (Or.inl rfl) hq hf hdg hlocks
      · cases h; exact W.aret hexec hb hr (Or.inr ⟨_, rfl⟩) (Or.inl rfl) hq hf hdg hlocks
      · cases h
    next => cases h
  · split at h
    next =>
      split at h
      · cases h; exact W.vret hexec hb hr hq hf hdg hlocks
      · cases h
    next => cases h
  · cases h
theorem aCall {g : aPg} {D : va_G} {tc : FieldType → ClassId} {r : Option Value} {w' : aW} {mc ms : Nat} {st0 rest : List Value} {a : Array Value} (hr : va_Run p l e R s m args below meth c H locs cells slots mc ms (F0 m pc ls st0) rest (cQc g D tc ad N0 r w' a) (fun z => N0 ≤ z)) (hS : va_S (fun z => N0 ≤ z) s.heap H locs)
    (kk : ∀ (H1 : Heap) (locs1 : List Loc), H1.size = N0 + w'.length → wP D (pK g) tc ad w' H1 → va_S (fun z => N0 ≤ z) s.heap H1 locs1 → W p l e R s m args below meth c H1 locs1 (cells + mc) (slots + ms) Q (F0 m (pc + 3) ls ((r.map (cV ad)).toList ++ rest))) : W p l e R s m args below meth c H locs cells slots Q (F0 m pc ls st0) := by
  intro T hT X
  obtain ⟨v, st₀, t, T', L, h0, X', hL, e1, e2, ⟨hv, hsz, hP, hz, hk⟩, st⟩ := hr T hT X
  cases hv
  rw [h0] at hz hk
  obtain ⟨t2, a1, b1⟩ := kk T'.heap (locs ++ L) (by rw [e1]; exact hsz) (by rw [e1]; exact hP) ⟨Nat.le_trans hS.1 (by rw [e1]; exact hz), fun q h1 h2 => by rw [e1, hk q (Nat.lt_of_lt_of_le h1 hS.1) h2]; exact hS.2.1 q h1 h2, fun q hq => by
      rcases List.mem_append.mp hq with h | h
      · exact hS.2.2 q h
      · exact hL q h⟩ T' rfl X'
  exact ⟨t2, st t2 a1, b1⟩
end aSound
section aExW
variable {g : aPg} {Ts : List Cond} {st : aXt} {D : va_G} {tc : FieldType → ClassId} {ad : Nat → Nat} {N0 : Nat} {l : Launch}
/-- a run of a method is its contract -/
theorem exMet {f : Nat} (IH : ExW g Ts st D tc ad N0 l f) (hg : pgOk g Ts st) {d k : Nat} {av : List Value} {w w' : aW} {n n' : Nat} {r : Option Value} {q : aMI} (hq : pI g k = some q) (hex : ex g f d k (0, aEnt q.2.2.1 av, [], w, n) = some (r, w', n')) (hfl : (aFl av).length ≤ q.2.2.1) (hlen : w.length ≤ 600000) :
    Met l q.1 (Cond.code q.1 q.2.1 q.2.2.1 q.2.2.2.1 :: Ts) (rmO d (w'.length - w.length) (n' - n)) (va_Pc (av.map (cV ad)) (cPc g st D tc ad N0 w)) (cQc g D tc ad N0 r w') (w'.length - w.length) (n' - n) (fun z => N0 ≤ z) := by
  have hm := hg.2.2.2.2.2 k q hq
  obtain ⟨m1, m2, -, -⟩ := ex_mono g f d k _ r w' n' hex
  dsimp only at m1 m2
  refine Met.ofW (cc := q.2.1) (maxL := q.2.2.1) (ret := q.2.2.2.1) hm.1 rfl ?_
  intro p e s m args below meth c s₁ B hml hv
  obtain ⟨rfl, hK, hX, hsz, hP⟩ := hv
  have hts := atoms_spec (ws := Cond.code q.1 q.2.1 q.2.2.1 q.2.2.2.1 :: Ts) B.pre
  have hown : s.vm.findClass q.1.cls = some m.cls := findClass_of_methodNamed B.named
  have hnm := (name_of_methodNamed B.named B.method).1
  have hr := B.returns
  have hlocks := B.notSynchronized
  have hhas := aEnt_has ad hfl
  rw [lg_entry_eq]
  refine IH d k (0, aEnt q.2.2.1 av, [], w, n) r w' n' q hex hq hlen p e _ s m _ below meth c s.heap [] 0 0 w.length n _ _ B.exec B.bytes hml (fun u hu => hts u (List.mem_cons_of_mem _ hu)) hown (fun z => hnm.trans (hm.2.2.2.2.2.1 z)) hK hX (Nat.le_refl _) (Nat.le_refl _) (Nat.zero_add _) (Nat.zero_add _) (by show w'.length ≤ w'.length - w.length + w.length; omega) (by show n' ≤ n' - n + n; omega) hsz hP va_S.rf hhas ?_
  intro H1 locs1 cells1 slots1 pc1 ls1 S1 i hc1 hs1 hz1 hP1 hS1 hd1 hr1
  have e1 : cells1 = w'.length - w.length := by omega
  have e2 : slots1 = n' - n := by omega
  subst e1; subst e2
  exact sR_ok B.exec B.bytes hr hlocks hd1 hr1 (fun t ht hW => ⟨rfl, by rw [ht]; exact hz1, by rw [ht]; exact hP1, hS1.F ht⟩) hS1.2.2
theorem cPc_blind {w : aW} {av : List Value} : FrameBlind (va_Pc av (cPc g st D tc ad N0 w)) := by
  intro a U gg mk h
  obtain ⟨h0, h1, h2, h3, h4⟩ := h
  exact ⟨h0, va_K.moved (u := U) (U := U.calling gg mk a) (Vm.Alike.refl U.vm) h1, h2.same rfl, h3, h4⟩
theorem cPc_pre {w : aW} {s : State} {H : Heap} {locs : List Loc} (hK : va_K D (pK g) (aTys tc (pO g)) s) (hX : eX (fun z => N0 ≤ z) ad st (pE g) (pS g) (pO g) s s.heap) (hsz : H.size = N0 + w.length) (hP : wP D (pK g) tc ad w H) (hS : va_S (fun z => N0 ≤ z) s.heap H locs) (U : State) (hU : U.heap = H) (hW : s.WarmedH U.vm) : cPc g st D tc ad N0 w U := by
  refine ⟨va_K.moved hW.alike hK, ?_, by rw [hU]; exact hsz, by rw [hU]; exact hP⟩
  rw [hU]
  exact (hX.kept hS.2.1).warm hW
theorem goodTs (hg : pgOk g Ts st) {k : Nat} {q : aMI} (hq : pI g k = some q) (hk0 : k ≠ 0) (ws : List Cond) (hws : ∀ u ∈ ws, u ∈ Ts) : GoodIn Ts (ws ++ (Cond.code q.1 q.2.1 q.2.2.1 q.2.2.2.1 :: Ts)) := by
  intro u hu
  have h1 : u ∈ Ts := by
    rcases List.mem_append.mp hu with h | h
    · exact hws u h
    · rcases List.mem_cons.mp h with h | h
      · rw [h]; exact (hg.2.2.2.2.2 k q hq).2.1 hk0
      · exact h
  exact ⟨h1, good_of_word (hg.1 u h1)⟩
/-- one step: what the machine must still do is what it must do behind the step -/
theorem st1W {f : Nat} (hg : pgOk g Ts st) (had : ∀ i, i < aK → ad i = N0 + i) (IH : ExW g Ts st D tc ad N0 l f) {d mi : Nat} {x y : aS} {q : aMI} (hq : pI g mi = some q) {i : Instr} {len : Nat} (hpc : pC g mi x.1 = some (i, len)) (hy : st1 g (ex g f) d mi q.2.2.1 q.2.2.2.2.2.2 i len x = some y) (hlen : x.2.2.2.1.length ≤ 600000)
    {p : Program} {e : Env} {R : Room} {s : State} {m : MethodId} {args : Array Value} {below : List Frame} {meth : Method} {c : Code} {H : Heap} {locs : List Loc} {cells slots c0 n0 : Nat} {Q : State → Prop} {ls : Array Slot}
    (hx : p.tables.exec = Jvm.exec) (hb : c.code = q.2.1) (hml : c.maxLocals = q.2.2.1) (hts : ∀ u ∈ Ts, u.before args s = true) (hown : s.vm.findClass q.1.cls = some m.cls) (hini : q.2.2.2.2.2.2 = true → meth.name = "<init>") (hK : va_K D (pK g) (aTys tc (pO g)) s) (hX : eX (fun z => N0 ≤ z) ad st (pE g) (pS g) (pO g) s s.heap)
    (hfr : d ≤ R.frames) (hlo : d * 100 ≤ R.locals) (hc : cells + c0 = x.2.2.2.1.length) (hn : slots + n0 = x.2.2.2.2) (hRc : y.2.2.2.1.length ≤ R.cells + c0) (hRs : y.2.2.2.2 ≤ R.slots + n0) (hsz : H.size = N0 + x.2.2.2.1.length) (hP : wP D (pK g) tc ad x.2.2.2.1 H) (hS : va_S (fun z => N0 ≤ z) s.heap H locs) (hl : aHas ad ls x.2.1)
    (go : ∀ (H1 : Heap) (locs1 : List Loc) (cells1 slots1 : Nat) (ls1 : Array Slot), cells1 + c0 = y.2.2.2.1.length → slots1 + n0 = y.2.2.2.2 → H1.size = N0 + y.2.2.2.1.length → wP D (pK g) tc ad y.2.2.2.1 H1 → va_S (fun z => N0 ≤ z) s.heap H1 locs1 → aHas ad ls1 y.2.1 → W p l e R s m args below meth c H1 locs1 cells1 slots1 Q (F0 m y.1 ls1 (y.2.2.1.map (cV ad)))) :
    W p l e R s m args below meth c H locs cells slots Q (F0 m x.1 ls (x.2.2.1.map (cV ad))) := by
  obtain ⟨hgw, hgc, hgd, hga, hgp, hgm⟩ := id hg
  have hm := hgm mi q hq
  have hAd : ∀ i, i < aK → (fun z => N0 ≤ z) (ad i) := fun i hi => by show N0 ≤ ad i; rw [had i hi]; omega
  have hlenK : x.2.2.2.1.length ≤ aK := Nat.le_trans hlen (by decide)
  have hdg := hm.2.2.2.2.2.2.1 _ _ _ hpc
  unfold st1 at hy
  split at hy
  next y' hy' =>
    cases hy
    unfold s0 at hy'
    split at hy'
    next hil =>
      subst hil
      split at hy'
      next z hz =>
        cases hy'
        have kk : ∀ ls : Array Slot, aHas ad ls z.2.1 → W p l e R s m args below meth c H locs cells slots Q (F0 m z.1 ls (z.2.2.map (cV ad))) := fun ls' hl' => go H locs cells slots ls' hc hn hsz hP hS hl'
        unfold sQ at hz
        split at hz
        next h1 => cases hz; exact sA_ok hx hb hdg hl h1 kk
        next =>
          split at hz
          next h1 => cases hz; exact sB_ok hx hb hdg hl h1 kk
          next =>
            split at hz
            next h1 => cases hz; exact sI_ok hx hb hdg hl h1 kk
            next =>
              split at hz
              next h1 => cases hz; exact sJ_ok hx hb hdg hl h1 kk
              next => exact sG_ok hx hb hdg hl hz kk
      next =>
        split at hy'
        next z hz =>
          cases hy'
          exact sH_ok hx hb hdg hts hown hgc hm.2.2.2.2.2.2.2.1 hK hP hX hS hl hz (fun ls' hl' => go H locs cells slots ls' hc hn hsz hP hS hl')
        next =>
          split at hy'
          next z hz =>
            cases hy'
            exact sM_ok hx hb hdg hts hown hini hgc hm.2.2.2.2.2.2.2.1 hK had hAd hlenK hP hS hl hz (fun ls' H1 locs1 hl' z1 z2 z3 z4 => go H1 locs1 cells slots ls' (by rw [hc]; exact z2.symm) hn (by rw [z1, hsz]; dsimp only; rw [z2]) z3 z4 hl')
          next =>
            split at hy'
            next z hz =>
              split at hy'
              rotate_left
              · cases hy'
              cases hy'
              have hl2 := (sN_len hz).1
              dsimp only at hRc hRs
              exact sN_ok hx hb hdg hts hown hgc hm.2.2.2.2.2.2.2.1 hgd hga hX.2.2.1 hK had hsz hP hS hl hz (by omega) (by omega) (fun ls' H1 hl' z1 z3 z4 => go H1 locs (cells + 1) (slots + z.2.2) ls' (by dsimp only; omega) (by dsimp only; omega) (by dsimp only; omega) z3 z4 hl')
            next => cases hy'
    next =>
      split at hy'
      next z hz =>
        cases hy'
        exact sW_ok hx hb hdg hl hz (fun ls' hl' => go H locs cells slots ls' hc hn hsz hP hS hl')
      next => cases hy'
  next =>
    split at hy
    next hil =>
      subst hil
      split at hy
      · cases hy
      next d' =>
        split at hy
        next hLl =>
          have hsize : ls.size = q.2.2.1 := hl.1.trans hLl
          split at hy
          next k mL' av rest hsc =>
            split at hy
            next r1 w1 n1 he =>
              cases hy
              obtain ⟨m1, m2, m3, -⟩ := ex_mono g f d' k _ r1 w1 n1 he
              dsimp only at m1 m2 m3 hRc hRs
              have kk : ∀ (H1 : Heap) (locs1 : List Loc), H1.size = N0 + w1.length → wP D (pK g) tc ad w1 H1 → va_S (fun z => N0 ≤ z) s.heap H1 locs1 → W p l e R s m args below meth c H1 locs1 (cells + (w1.length - x.2.2.2.1.length)) (slots + (n1 - x.2.2.2.2)) Q (F0 m (x.1 + 3) ls ((r1.map (cV ad)).toList ++ rest.map (cV ad))) := by
                intro H1 locs1 z1 z2 z3
                have hst : (r1.map (cV ad)).toList ++ rest.map (cV ad) = (r1.toList ++ rest).map (cV ad) := by cases r1 <;> rfl
                rw [hst]
                exact go H1 locs1 _ _ ls (by dsimp only; omega) (by dsimp only; omega) z1 z2 z3 hl
              have hf : cells + (w1.length - x.2.2.2.1.length) ≤ R.cells ∧ slots + (n1 - x.2.2.2.2) ≤ R.slots := ⟨by omega, by omega⟩
              unfold sC at hsc
              split at hsc
              · split at hsc
                next idx k0 z hlk =>
                  split at hsc
                  next y0 cc0 mL0 ret0 np0 ck0 ini0 hk0 =>
                    split at hsc
                    next hcnd =>
                      cases hsc
                      obtain ⟨c1, c2, c3, c4⟩ := hcnd
                      have hM := exMet (l := l) IH hg hk0 he c4 hlen
                      have hmk := hgm k _ hk0
                      obtain ⟨l1, l2⟩ := (hm.2.2.2.2.2.2.2.2 _ _ _ _ hlk hk0).2.1 c1
                      refine aCall (va_runS (As := ((x.2.2.1.take np0).reverse).map (cV ad)) (rest := (x.2.2.1.drop np0).map (cV ad)) ⟨hx, hb, hml, hown, hts⟩ hM (va_cwS np0 hts (goodTs hg hk0 (hm.2.2.2.2.2.2.2.2 _ _ _ _ hlk hk0).1 [Cond.methodLink q.1.cls _ y0, .static y0, .initialized y0.cls] ?_) rfl rfl rfl hmk.2.2.2.1 ⟨?_, ?_⟩) ⟨cPc_blind, fun U hU hW => ⟨rfl, cPc_pre hK hX hsz hP hS U hU hW⟩⟩ rfl ?_ hsize ?_ ?_ hdg hf) hS kk
                      · intro u hu
                        rcases List.mem_cons.mp hu with h | hu
                        · rw [h]; exact l1
                        · rcases List.mem_cons.mp hu with h | hu
                          · rw [h]; exact l2
                          · rw [List.mem_singleton.mp hu]; exact hmk.2.2.1
                      · exact hfr
                      · have := hmk.2.2.2.2.1
                        show 8 + (mL' + 11) + d' * 100 ≤ R.locals
                        dsimp only at this
                        omega
                      · rw [List.length_map, List.length_reverse, List.length_take]; omega
                      · show x.2.2.1.map (cV ad) = _
                        rw [← List.map_reverse, List.reverse_reverse, ← List.map_append, List.take_append_drop]
                      · show 2 * 0 + _ ≤ 8
                        rw [cS_cat]; omega
                    next => cases hsc
                  next => cases hsc
                next => cases hsc
              · split at hsc
                next idx k0 z hlk =>
                  split at hsc
                  next y0 cc0 mL0 ret0 np0 ck0 ini0 hk0 =>
                    split at hsc
                    next b rr hdrop =>
                      split at hsc
                      next ci fs hwb =>
                        split at hsc
                        next hcnd =>
                          cases hsc
                          obtain ⟨c1, c2, c3, c4⟩ := hcnd
                          have hM := exMet (l := l) IH hg hk0 he c4 hlen
                          have hmk := hgm k _ hk0
                          obtain ⟨l1, l2, l3, T5, N5, l4⟩ := (hm.2.2.2.2.2.2.2.2 _ _ _ _ hlk hk0).2.2.1 c1
                          subst c2
                          have hnp : np0 < x.2.2.1.length := by
                            rcases Nat.lt_or_ge np0 x.2.2.1.length with h | h
                            · exact h
                            · rw [List.drop_eq_nil_of_le h] at hdrop; cases hdrop
                          refine aCall (va_runV (As := ((x.2.2.1.take np0).reverse).map (cV ad)) (rest := rest.map (cV ad)) ⟨hx, hb, hml, hown, hts⟩ hM (cwV np0 hts (goodTs hg hk0 (hm.2.2.2.2.2.2.2.2 _ _ _ _ hlk hk0).1 [Cond.methodLink q.1.cls _ y0, .instanceMethod y0, .selects y0.cls y0 y0, .initialized y0.cls] ?_) rfl rfl rfl ⟨rfl, hmk.2.2.2.1⟩ ⟨?_, ?_⟩) ⟨cPc_blind, va_recv hK (hP.one hwb) l4 (q0 := 0) rfl, fun U hU hW => ⟨rfl, cPc_pre hK hX hsz hP hS U hU hW⟩⟩ rfl ?_ hsize ?_ ?_ hdg hf) hS kk
                          · intro u hu
                            rcases List.mem_cons.mp hu with h | hu
                            · rw [h]; exact l1
                            · rcases List.mem_cons.mp hu with h | hu
                              · rw [h]; exact l2
                              · rcases List.mem_cons.mp hu with h | hu
                                · rw [h]; exact l3
                                · rw [List.mem_singleton.mp hu]; exact hmk.2.2.1
                          · exact hfr
                          · have := hmk.2.2.2.2.1
                            show 8 + (mL' + 11) + d' * 100 ≤ R.locals
                            dsimp only at this
                            omega
                          · rw [List.length_map, List.length_reverse, List.length_take]; omega
                          · show x.2.2.1.map (cV ad) = _
                            rw [← List.map_reverse, List.reverse_reverse]
                            show _ = _ ++ (Value.ref b :: rest).map (cV ad)
                            rw [← hdrop, ← List.map_append, List.take_append_drop]
                          · show 2 * 0 + _ ≤ 8
                            rw [cS_cat]; omega
                        next => cases hsc
                      next hwb =>
                        split at hsc
                        next b5 heb =>
                          split at hsc
                          next hcnd =>
                            cases hsc
                            obtain ⟨c1, c3, c4⟩ := hcnd
                            have hM := exMet (l := l) IH hg hk0 he c4 hlen
                            have hmk := hgm k _ hk0
                            obtain ⟨l1, l2, l3, l4⟩ := (hm.2.2.2.2.2.2.2.2 _ _ _ _ hlk hk0).2.2.2.2.2 c1
                            dsimp only at l4
                            obtain ⟨cellB, hB1, hB2, hB3, -⟩ := (hX.2.1 _ _ heb : va_O _ _ _ _ _ ∧ _ ∧ _).1.kept hS.2.1
                            have hnp : np0 < x.2.2.1.length := by
                              rcases Nat.lt_or_ge np0 x.2.2.1.length with h | h
                              · exact h
                              · rw [List.drop_eq_nil_of_le h] at hdrop; cases hdrop
                            refine aCall (va_runV (As := ((x.2.2.1.take np0).reverse).map (cV ad)) (rest := rest.map (cV ad)) ⟨hx, hb, hml, hown, hts⟩ hM (cwV np0 hts (goodTs hg hk0 (hm.2.2.2.2.2.2.2.2 _ _ _ _ hlk hk0).1 [Cond.methodLink q.1.cls _ y0, .instanceMethod y0, .selects y0.cls y0 y0, .initialized y0.cls] ?_) rfl rfl rfl ⟨rfl, hmk.2.2.2.1⟩ ⟨?_, ?_⟩) ⟨cPc_blind, ⟨cellB, hB1, hB2, by rw [l4]; exact hB3⟩, fun U hU hW => ⟨rfl, cPc_pre hK hX hsz hP hS U hU hW⟩⟩ rfl ?_ hsize ?_ ?_ hdg hf) hS kk
                            · intro u hu
                              rcases List.mem_cons.mp hu with h | hu
                              · rw [h]; exact l1
                              · rcases List.mem_cons.mp hu with h | hu
                                · rw [h]; exact l2
                                · rcases List.mem_cons.mp hu with h | hu
                                  · rw [h]; exact l3
                                  · rw [List.mem_singleton.mp hu]; exact hmk.2.2.1
                            · exact hfr
                            · have := hmk.2.2.2.2.1
                              show 8 + (mL' + 11) + d' * 100 ≤ R.locals
                              dsimp only at this
                              omega
                            · rw [List.length_map, List.length_reverse, List.length_take]; omega
                            · show x.2.2.1.map (cV ad) = _
                              rw [← List.map_reverse, List.reverse_reverse]
                              show _ = _ ++ (Value.ref b :: rest).map (cV ad)
                              rw [← hdrop, ← List.map_append, List.take_append_drop]
                            · show 2 * 0 + _ ≤ 8
                              rw [cS_cat]; omega
                          next => cases hsc
                        next => cases hsc
                      next => cases hsc
                    next => cases hsc
                  next => cases hsc
                next => cases hsc
              · split at hsc
                next idx k0 z hlk =>
                  split at hsc
                  next y0 cc0 mL0 ret0 np0 ck0 ini0 hk0 =>
                    split at hsc
                    next b rr hdrop =>
                      split at hsc
                      next hcnd =>
                        cases hsc
                        obtain ⟨c1, c3, c4⟩ := hcnd
                        have hM := exMet (l := l) IH hg hk0 he c4 hlen
                        have hmk := hgm k _ hk0
                        have hlm := hm.2.2.2.2.2.2.2.2 _ _ _ _ hlk hk0
                        have hnp : np0 < x.2.2.1.length := by
                          rcases Nat.lt_or_ge np0 x.2.2.1.length with h | h
                          · exact h
                          · rw [List.drop_eq_nil_of_le h] at hdrop; cases hdrop
                        have hgood := goodTs hg hk0 (hm.2.2.2.2.2.2.2.2 _ _ _ _ hlk hk0).1 [] (fun u hu => absurd hu List.not_mem_nil)
                        have hroom : d' + 1 ≤ R.frames ∧ 8 + (mL' + 11) + d' * 100 ≤ R.locals := by
                          have := hmk.2.2.2.2.1
                          dsimp only at this
                          exact ⟨hfr, by omega⟩
                        have hstk : x.2.2.1.map (cV ad) = (((x.2.2.1.take np0).reverse).map (cV ad)).reverse ++ .ref (ad b) :: rest.map (cV ad) := by
                          rw [← List.map_reverse, List.reverse_reverse]
                          show _ = _ ++ (Value.ref b :: rest).map (cV ad)
                          rw [← hdrop, ← List.map_append, List.take_append_drop]
                        have hargs : (((x.2.2.1.take np0).reverse).map (cV ad)).length = np0 := by rw [List.length_map, List.length_reverse, List.length_take]; omega
                        have hcat : 2 * (F0 m x.1 ls (x.2.2.1.map (cV ad))).monitorRoom + ((rest.map (cV ad)).map fun v => v.category).sum ≤ 8 := by
                          show 2 * 0 + _ ≤ 8
                          rw [cS_cat]; omega
                        rcases c1 with c1 | c1
                        · obtain ⟨l1, l2, l3, l4⟩ := hlm.2.2.2.1 c1
                          dsimp only at l4
                          subst l4
                          exact aCall (va_runI (As := ((x.2.2.1.take np0).reverse).map (cV ad)) (rest := rest.map (cV ad)) ⟨hx, hb, hml, hown, hts⟩ hM (cwI np0 hts hgood rfl rfl rfl (hts _ hmk.2.2.1) (hts _ l1) (hts _ l2) l3 hmk.2.2.2.1 hroom) ⟨cPc_blind, fun U hU hW => ⟨rfl, cPc_pre hK hX hsz hP hS U hU hW⟩⟩ rfl hargs hsize hstk hcat hdg hf) hS kk
                        · obtain ⟨⟨host, l1⟩, l2, l3, l4⟩ := hlm.2.2.2.2.1 c1
                          dsimp only at l4
                          subst l4
                          exact aCall (va_runIN (As := ((x.2.2.1.take np0).reverse).map (cV ad)) (rest := rest.map (cV ad)) ⟨hx, hb, hml, hown, hts⟩ hM ⟨va_cnB np0 hts hgood rfl rfl rfl (hX.2.2.2.1 _ l1) (hts _ hmk.2.2.1) hmk.2.2.2.1 hroom, l3, hts _ l2⟩ ⟨cPc_blind, fun U hU hW => ⟨rfl, cPc_pre hK hX hsz hP hS U hU hW⟩⟩ rfl hargs hsize hstk hcat hdg hf) hS kk
                      next => cases hsc
                    next => cases hsc
                  next => cases hsc
                next => cases hsc
              · cases hsc
            next => cases hy
          next =>
            split at hy
            next z hz =>
              cases hy
              have hl2 := sP_len hz
              have hLz : z.1.2.1 = x.2.1 := by
                unfold sP at hz
                repeat' split at hz
                all_goals first
                  | cases hz; done
                  | (cases hz; rfl)
              exact sP_ok hx hb (hml.trans hsize.symm) hdg hts hown hm.2.2.2.2.2.2.2.1 hgp hK hX had hAd hlenK hP hS (by omega) (by omega) (by dsimp only at hRc; omega) (by dsimp only at hRs; omega) hz (fun H1 locs1 z1 z3 z4 => go H1 locs1 cells slots ls (by dsimp only; omega) hn (by dsimp only; omega) z3 z4 (by dsimp only; rw [hLz]; exact hl))
            next => cases hy
        next => cases hy
    next => cases hy
theorem exW (hg : pgOk g Ts st) (had : ∀ i, i < aK → ad i = N0 + i) : ∀ f, ExW g Ts st D tc ad N0 l f := by
  intro f
  induction f with
  | zero => intro d mi x r w' n' q h; cases h
  | succ f IH =>
    intro d mi x r w' n' q hex hq hlen p e R s m args below meth c H locs cells slots c0 n0 Q ls hx hb hml hts hown hini hK hX hfr hlo hc hn hRc hRs hsz hP hS hl hret
    unfold ex at hex
    rw [hq] at hex
    dsimp only at hex
    split at hex
    · cases hex
    next i len hpc =>
      split at hex
      next v hv =>
        split at hv
        next hil =>
          subst hil
          cases hex
          exact hret H locs cells slots x.1 ls x.2.2.1 i hc hn hsz hP hS ((hg.2.2.2.2.2 mi q hq).2.2.2.2.2.2.1 _ _ _ hpc) hv
        next => cases hv
      next =>
        split at hex
        next y hy =>
          have hmono := ex_mono g f d mi y r w' n' hex
          have hl0 := st1_len (ex_mono g f) hy
          exact st1W hg had IH hq hpc hy hlen hx hb hml hts hown hini hK hX hfr hlo hc hn (by omega) (by omega) hsz hP hS hl (fun H1 locs1 cells1 slots1 ls1 z1 z2 z3 z4 z5 z6 => IH d mi y r w' n' q hex hq (hl0.2.2.1 hlen) p e R s m args below meth c H1 locs1 cells1 slots1 c0 n0 Q ls1 hx hb hml hts hown hini hK hX hfr hlo z1 z2 hRc hRs z3 z4 z5 z6 hret)
        next => cases hex
end aExW
