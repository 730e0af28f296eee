/-! ===== the law's own member: returning what the class's member answers, or 1 where that throws ===== -/
theorem xOfWH {l : Launch} {y : MethodName} {ws ws' : List Cond} {rm : Room} {Pc : Array Value → State → Prop} {Qc : Array Value → State → Outcome → State → Prop} {mc ms : Nat} {free : Addr → Prop} {cc : ByteArray} {maxL : Nat} {ret : Option FieldType} {hh : List (Nat × Nat × Nat × Nat)}
    (hy : plainName y.cls = true) (hw : ws = Cond.codeWith y cc maxL ret hh :: ws')
    (body : ∀ p e s m args below meth c s₁, BodyLoose p l y (headSpec ws rm) cc maxL ret e s m args below meth c s₁ → c.maxLocals = maxL → Pc args s → W p l e (headSpec ws rm).room s m args below meth c s.heap [] 0 0 (MQ below Qc args s mc ms free) (entryFrame m args maxL)) : Met l y ws rm Pc Qc mc ms free := by
  refine MetFree.of_bodyS (code := cc) (maxLocals := maxL) (ret := ret) hy ?_ ?_
  · intro args s m h hn
    obtain ⟨m9, meth, c, hn9, h1, h2, h3, h4, -, h5, h6, -⟩ := Cond.codeWith_spec (atoms_spec (ws := ws) h _ (by rw [hw]; exact List.mem_cons_self))
    cases hn.symm.trans hn9
    exact ⟨meth, c, h1, h2, h3, h4, h5, h6⟩
  · intro p e s m args below meth c s₁ B hml hP _
    have hh0 : s₁.heap = s.heap := by rw [B.state]; rfl
    obtain ⟨t, a1, o, b1, b2, b3⟩ := body p e s m args below meth c s₁ B hml hP s₁ hh0 (Stand.of_body B)
    exact ⟨t, o, a1, b1, b2, ⟨b3.1, b3.2⟩⟩
def mNm : MethodName := ⟨"SledgeVoteLaw", "member", "(LSledgeVote;II[J)I"⟩
def mHm : List (Nat × Nat × Nat × Nat) := [(0, 10, 13, 13)]
def mWm : Cond := Cond.codeWith mNm method_3_code 5 (some .int) mHm
set_option maxRecDepth 1000000 in
theorem mWm_in : mWm ∈ gTs := gTs_in 1302 (by decide +kernel) rfl
set_option maxRecDepth 1000000 in
theorem mIn_1 : ∀ u ∈ [Cond.methodLink "SledgeVoteLaw" 7 mN118, .instanceMethod mN118, .selects "SledgeVote" mN118 mN118, .initialized "SledgeVote"], u ∈ gTs := gTs_all [1304, 1305, 1306, 104] (by decide +kernel) (by decide +kernel)
set_option maxRecDepth 1000000 in
theorem mIn_2 : ∀ u ∈ [Cond.methodLink "SledgeVoteLaw" 46 mNm, .static mNm, .initialized "SledgeVoteLaw"], u ∈ gTs := gTs_all [1300, 1301, 103] (by decide +kernel) (by decide +kernel)
set_option maxRecDepth 1000000 in
theorem mIn_3 : Cond.classLink "SledgeVoteLaw" 13 xN ∈ gTs := gTs_in 1303 (by decide +kernel) rfl
theorem mGood : GoodIn gTs (va_wsS "SledgeVoteLaw" 46 mNm (mWm :: gTs)) := by
  intro u hu
  have h1 : u ∈ gTs := by
    rcases List.mem_append.mp hu with h | h
    · exact mIn_2 u h
    · rcases List.mem_cons.mp h with h | h
      · rw [h]; exact mWm_in
      · exact h
  exact ⟨h1, good_of_word (List.mem_filter.mp h1).2⟩
theorem dm0 : decode method_3_code 0 = .ok (.aload_n 3, 1) := by decide +kernel
theorem dm1 : decode method_3_code 1 = .ok (.iconst 0, 1) := by decide +kernel
theorem dm2 : decode method_3_code 2 = .ok (.aload_n 0, 1) := by decide +kernel
theorem dm3 : decode method_3_code 3 = .ok (.iload_n 1, 1) := by decide +kernel
theorem dm4 : decode method_3_code 4 = .ok (.iload_n 2, 1) := by decide +kernel
theorem dm5 : decode method_3_code 5 = .ok (.invokevirtual 7, 3) := by decide +kernel
theorem dm8 : decode method_3_code 8 = .ok (.i2l, 1) := by decide +kernel
theorem dm9 : decode method_3_code 9 = .ok (.lastore, 1) := by decide +kernel
theorem dm10 : decode method_3_code 10 = .ok (.goto 7, 3) := by decide +kernel
theorem dm13 : decode method_3_code 13 = .ok (.astore 4, 2) := by decide +kernel
theorem dm15 : decode method_3_code 15 = .ok (.iconst 1, 1) := by decide +kernel
theorem dm16 : decode method_3_code 16 = .ok (.ireturn, 1) := by decide +kernel
theorem dm17 : decode method_3_code 17 = .ok (.iconst 0, 1) := by decide +kernel
theorem dm18 : decode method_3_code 18 = .ok (.ireturn, 1) := by decide +kernel
theorem wP.junk {D : va_G} {cl : List vw_C} {tc : FieldType → ClassId} {ad : Nat → Nat} {w : aW} {H : Heap} (h : wP D cl tc ad w H) : wP D cl tc ad (w ++ [none]) H := by
  intro i c hi
  by_cases hl : i < w.length
  · rw [List.getElem?_append_left hl] at hi
    exact h i c hi
  · rw [List.getElem?_append_right (by omega)] at hi
    have hz : i - w.length < 1 := (List.getElem?_eq_some_iff.mp hi).1
    rw [show i - w.length = 0 by omega] at hi
    cases hi
section LMemb
variable {xs : List Int32} {fv : Value} {D : va_G} {tc : FieldType → ClassId} {ad : Nat → Nat} {N0 : Nat} {l : Launch}
theorem cPx_blind {w : aW} {av : List Value} : FrameBlind (va_Pc av (cPx xs fv D tc ad N0 w)) := by
  intro a U gg mk h
  obtain ⟨h0, h1, h2⟩ := h
  obtain ⟨-, h3⟩ := cPc_blind (av := av) a U gg mk ⟨h0, h1⟩
  exact ⟨h0, h3, h2.same rfl⟩
set_option maxHeartbeats 4000000 in
theorem lmX (hl : l.stackTraces = false) (had : ∀ i, i < aK → ad i = N0 + i) {x oid : Nat} {p0 p1 : Int32} {w : aW} {n f k : Nat} {L' : aL} {fs : List Value} (hgo : goN (gP xs fv) (ex (gP xs fv) f) 798 118 3 false k (0, aEnt 3 [.ref x, .int p0, .int p1], [], w, n) = some (18, L', [], w, n)) (hlen : w.length ≤ 600000) (hL' : L'.length = 3) (hwx : w[x]? = some (some (.inr (11, fs)))) :
    Met l mNm (mWm :: gTs) (rmO 799 1 6) (va_Pc ([Value.ref x, .int p0, .int p1, .ref oid].map (cV ad)) (cPx xs fv D tc ad N0 w)) (cQc (gP xs fv) D tc ad N0 (some (.int 1)) (w ++ [none])) 1 6 (fun z => N0 ≤ z) := by
  refine xOfWH (cc := method_3_code) (maxL := 5) (ret := some .int) (by decide) rfl ?_
  intro p e s m args below meth c s₁ B hml hv
  obtain ⟨rfl, ⟨hK, hX, hsz, hP⟩, hF⟩ := hv
  have hts0 := atoms_spec (ws := mWm :: gTs) B.pre
  have hts : ∀ u ∈ gTs, u.before _ s = true := fun u hu => hts0 u (List.mem_cons_of_mem _ hu)
  have htab := vx_table (x := mNm) B (hts0 mWm List.mem_cons_self)
  have hown : s.vm.findClass "SledgeVoteLaw" = some m.cls := findClass_of_methodNamed B.named
  have hlocks := B.notSynchronized
  have hr0 := B.returns
  have hx := B.exec
  have hb := B.bytes
  have hl0 := aEnt_has ad (mL := 5) (av := [.ref x, .int p0, .int p1, .ref oid]) (by show 4 ≤ 5; decide)
  rw [lg_entry_eq]
  generalize (lg_sl ([Value.ref x, .int p0, .int p1, .ref oid].map (cV ad)) ++ List.replicate (5 - (lg_sl ([Value.ref x, .int p0, .int p1, .ref oid].map (cV ad))).length) Slot.unset).toArray = ls at hl0 ⊢
  refine lv_aload_n hx hb dm0 rfl (hl0.at (i := 3) (v := .ref oid) rfl) ?_
  refine lv_iconst (v := 0) hx hb dm1 (by decide) ?_
  refine lv_aload_n hx hb dm2 rfl (hl0.at (i := 0) (v := .ref x) rfl) ?_
  refine lv_iload_n hx hb dm3 rfl (hl0.at (i := 1) (v := .int p0) rfl) ?_
  refine lv_iload_n hx hb dm4 rfl (hl0.at (i := 2) (v := .int p1) rfl) ?_
  have hr := vx_runV (p := p) (l := l) (e := e) (R := (headSpec (mWm :: gTs) (rmO 799 1 6)).room) (s := s) (m := m) (below := below) (meth := meth) (c := c) (H := s.heap) (locs := []) (cells := 0) (slots := 0) (g := F0 m 5 ls [.int p1, .int p0, .ref (ad x), .int 0, .ref (ad oid)]) (As := [.int p0, .int p1]) (rest := [.int 0, .ref (ad oid)]) ⟨hx, hb, hml, hown, hts⟩ (memX (D := D) (tc := tc) hl had hgo hlen hL') (cwV 2 hts (goodTs (gOk xs fv) (k := 118) (q := mI118) rfl (by decide) _ mIn_1) rfl rfl rfl ⟨rfl, by decide, by decide, by decide⟩ ⟨Nat.le_of_ble_eq_true rfl, Nat.le_of_ble_eq_true rfl⟩) ⟨cPx_blind, va_recv (ci := 11) hK (hP.one hwx) rfl (q0 := 0) rfl, fun U hU hW => ⟨rfl, cPc_pre hK hX hsz hP va_S.rf U hU hW, by rw [hU]; exact hF.warm hW⟩⟩ rfl rfl hl0.1 rfl (lv_room (by show 2 ≤ 8; decide)) dm5 ⟨Nat.le_refl _, Nat.le_refl _⟩
  intro T hT X
  rcases hr T hT X with ⟨v, st₀, t, T', L, h0, X', hL, e1, e2, hfalse, st⟩ | ⟨q, st₀, t, T', L, E, ce, h0, X', hL, e1, e2, ⟨hE, hz, hP', hFr⟩, hce, hcv, hcl, st⟩
  · exact hfalse.elim
  · subst hE
    have hzz : T'.heap.size = N0 + (w ++ [none]).length := by
      have z1 := X'.heapSize
      rw [hsz] at z1
      rw [← e1] at hz
      rw [List.length_append, List.length_singleton]
      omega
    have hFs : s.heap.size ≤ T'.heap.size ∧ ∀ q : Nat, q < s.heap.size → ¬ (fun z => N0 ≤ z) q → T'.heap[q]? = s.heap[q]? := by
      obtain ⟨f1, f2⟩ := hFr
      rw [h0] at f1 f2
      rw [e1]
      exact ⟨f1, f2⟩
    have kk := vx_catch (p := p) (l := l) (e := e) (R := (headSpec (mWm :: gTs) (rmO 799 1 6)).room) (s := s) (m := m) (args := ([Value.ref x, .int p0, .int p1, .ref oid].map (cV ad)).toArray) (below := below) (meth := meth) (c := c) (H := T'.heap) (locs := [] ++ L) (cells := 0 + 1) (slots := 0 + 6) (Q := MQ below (cQc (gP xs fv) D tc ad N0 (some (.int 1)) (w ++ [none])) ([Value.ref x, .int p0, .int p1, .ref oid].map (cV ad)).toArray s 1 6 (fun z => N0 ≤ z)) (pc := 5) (ls := ls) (rest := [.int 0, .ref (ad oid)]) (q := q) (name := xN) hown [] ⟨0, 10, 13, 13⟩ [] htab (fun z hz => nomatch hz) rfl (by decide) (hts _ mIn_3) (va_Nw.use rfl hF.1.1) (by rw [e1]; exact hce) hcv hcl ?_
    · obtain ⟨t2, a1, b1⟩ := kk T' rfl X'
      exact ⟨t2, st.trans a1, b1⟩
    · refine lv_astore (lv := []) hx hb dm13 ⟨hl0.1, hl0.2.1, fun z hz => absurd hz List.not_mem_nil⟩ (by show 4 < 5; decide) rfl (fun ls' hl' => ?_)
      refine lv_iconst (v := 1) hx hb dm15 (by decide) ?_
      exact W.iret hx hb hr0 (fun t' ht hW => ⟨rfl, by rw [ht]; exact hzz, by rw [ht, e1]; exact hP'.junk, by rw [va_F, ht]; exact hFs⟩) (fun z hz => hL z hz) dm16 hlocks
set_option maxHeartbeats 4000000 in
theorem lmR (had : ∀ i, i < aK → ad i = N0 + i) {x oid : Nat} {p0 p1 v : Int32} {y : Int64} {w w' : aW} {n n' f : Nat} {fs : List Value} (hex : ex (gP xs fv) f 798 118 (0, aEnt 3 [.ref x, .int p0, .int p1], [], w, n) = some (some (.int v), w', n')) (hlen : w.length ≤ 600000) (hwx : w[x]? = some (some (.inr (11, fs)))) (hwo : w'[oid]? = some (some (.inl (.long, .inr (.inl [y]))))) :
    Met l mNm (mWm :: gTs) (rmO 799 (w'.length - w.length) (n' - n)) (va_Pc ([Value.ref x, .int p0, .int p1, .ref oid].map (cV ad)) (cPx xs fv D tc ad N0 w)) (cQc (gP xs fv) D tc ad N0 (some (.int 0)) (w'.set oid (some (.inl (.long, .inr (.inl [v.toInt64])))))) (w'.length - w.length) (n' - n) (fun z => N0 ≤ z) := by
  refine xOfWH (cc := method_3_code) (maxL := 5) (ret := some .int) (by decide) rfl ?_
  intro p e s m args below meth c s₁ B hml hv
  obtain ⟨rfl, ⟨hK, hX, hsz, hP⟩, hF⟩ := hv
  obtain ⟨m1, m2, m3, -⟩ := ex_mono (gP xs fv) f 798 118 _ _ w' n' hex
  have hts0 := atoms_spec (ws := mWm :: gTs) B.pre
  have hts : ∀ u ∈ gTs, u.before _ s = true := fun u hu => hts0 u (List.mem_cons_of_mem _ hu)
  have hown : s.vm.findClass "SledgeVoteLaw" = some m.cls := findClass_of_methodNamed B.named
  have hlocks := B.notSynchronized
  have hr0 := B.returns
  have hx := B.exec
  have hb := B.bytes
  have hAd : ∀ i, i < aK → (fun z => N0 ≤ z) (ad i) := fun i hi => by show N0 ≤ ad i; rw [had i hi]; omega
  have hl0 := aEnt_has ad (mL := 5) (av := [.ref x, .int p0, .int p1, .ref oid]) (by show 4 ≤ 5; decide)
  rw [lg_entry_eq]
  generalize (lg_sl ([Value.ref x, .int p0, .int p1, .ref oid].map (cV ad)) ++ List.replicate (5 - (lg_sl ([Value.ref x, .int p0, .int p1, .ref oid].map (cV ad))).length) Slot.unset).toArray = ls at hl0 ⊢
  refine lv_aload_n hx hb dm0 rfl (hl0.at (i := 3) (v := .ref oid) rfl) ?_
  refine lv_iconst (v := 0) hx hb dm1 (by decide) ?_
  refine lv_aload_n hx hb dm2 rfl (hl0.at (i := 0) (v := .ref x) rfl) ?_
  refine lv_iload_n hx hb dm3 rfl (hl0.at (i := 1) (v := .int p0) rfl) ?_
  refine lv_iload_n hx hb dm4 rfl (hl0.at (i := 2) (v := .int p1) rfl) ?_
  have hM := exMet (g := gP xs fv) (Ts := gTs) (st := gXt) (D := D) (tc := tc) (ad := ad) (N0 := N0) (l := l) (exW (gOk xs fv) had f) (gOk xs fv) (k := 118) (q := mI118) (av := [.ref x, .int p0, .int p1]) rfl hex (Nat.le_refl 3) hlen
  refine aCall (st0 := [.int p1, .int p0, .ref (ad x), .int 0, .ref (ad oid)]) (va_runV (As := [.int p0, .int p1]) (rest := [.int 0, .ref (ad oid)]) ⟨hx, hb, hml, hown, hts⟩ hM (cwV 2 hts (goodTs (gOk xs fv) (k := 118) (q := mI118) rfl (by decide) _ mIn_1) rfl rfl rfl ⟨rfl, by decide, by decide, by decide⟩ ⟨Nat.le_of_ble_eq_true rfl, Nat.le_of_ble_eq_true rfl⟩) ⟨cPc_blind, va_recv (ci := 11) hK (hP.one hwx) rfl (q0 := 0) rfl, fun U hU hW => ⟨rfl, cPc_pre hK hX hsz hP va_S.rf U hU hW⟩⟩ rfl rfl hl0.1 rfl (lv_room (by show 2 ≤ 8; decide)) dm5 ⟨by show 0 + _ ≤ _; exact Nat.le_of_eq (Nat.zero_add _), by show 0 + _ ≤ _; exact Nat.le_of_eq (Nat.zero_add _)⟩) va_S.rf (fun H1 locs1 z1 z2 z3 => ?_)
  refine lv_i2l hx hb dm8 rfl ?_
  refine sM_ok (cl := vwCl) (tc := tc) (D := D) (ad := ad) (N0 := N0) (A := fun z => N0 ≤ z) (Ts := gTs) (st := gXt) (ty := gTy) (lk := gL 0) (oc := gOc) (own := "SledgeVoteLaw") (ini := false) (i := .lastore) (L := aEnt 5 [.ref x, .int p0, .int p1, .ref oid]) (S := [.long v.toInt64, .int 0, .ref oid]) (w := w') (x := ((10, aEnt 5 [.ref x, .int p0, .int p1, .ref oid], []), w'.set oid (some (.inl (.long, .inr (.inl [v.toInt64])))))) hx hb dm9 hts hown (fun h => by cases h) gCl (gMs xs fv 0 mI0 rfl).2.2.2.2.2.2.2.1 hK had hAd (Nat.le_trans (m3 hlen) (by decide)) z2 z3 hl0 ?_ ?_
  · simp only [sM, hwo]
    rfl
  · intro ls2 H2 locs2 y1 y2 y3 y4 y5
    refine lv_goto hx hb dm10 (tgt := 17) rfl ?_
    refine lv_iconst (v := 0) hx hb dm17 (by decide) ?_
    refine W.eq rfl (W.widen (k := w'.length - w.length) (n := n' - n) (Nat.le_of_eq (Nat.zero_add _)) (Nat.le_of_eq (Nat.zero_add _)) ?_)
    exact W.iret hx hb hr0 (fun t' ht hW => ⟨rfl, by rw [ht, y2, z1, y3], by rw [ht]; exact y4, y5.F ht⟩) y5.2.2 dm18 hlocks
end LMemb
