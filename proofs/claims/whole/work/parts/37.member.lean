/-! ===== the law's member: what the class's member throws is caught ===== -/
def xF (A : Nat → Prop) (U : State) (H : Heap) : Prop := (va_Nw (.castable xN xN) U ∧ va_Nw (.declares (Bundle.initS "java/lang/RuntimeException")) U ∧ va_Nw (.declares (Bundle.initS "java/lang/Exception")) U ∧ va_Nw (.declares (Bundle.initS Bundle.tN)) U) ∧ vx_Zq Bundle.tN "UNASSIGNED_STACK" Bundle.steD A U H ∧ vx_Zq Bundle.tN "SUPPRESSED_SENTINEL" Bundle.listD A U H
theorem xF.warm {A : Nat → Prop} {u U : State} {H : Heap} (hW : u.WarmedH U.vm) (h : xF A u H) : xF A U H := ⟨⟨va_Nw.warmC hW h.1.1, va_Nw.warmD hW h.1.2.1, va_Nw.warmD hW h.1.2.2.1, va_Nw.warmD hW h.1.2.2.2⟩, vx_Zq.moved hW.alike h.2.1, vx_Zq.moved hW.alike h.2.2⟩
theorem xF.same {A : Nat → Prop} {u U : State} {H : Heap} (hvm : u.vm = U.vm) (h : xF A u H) : xF A U H := ⟨⟨va_Nw.same rfl hvm h.1.1, va_Nw.same rfl hvm h.1.2.1, va_Nw.same rfl hvm h.1.2.2.1, va_Nw.same rfl hvm h.1.2.2.2⟩, vx_Zq.moved (hvm ▸ Vm.Alike.refl u.vm) h.2.1, vx_Zq.moved (hvm ▸ Vm.Alike.refl u.vm) h.2.2⟩
theorem xF.kept {A : Nat → Prop} {U : State} {H H1 : Heap} (h : xF A U H) (hq : ∀ a : Nat, a < H.size → ¬ A a → H1[a]? = H[a]?) : xF A U H1 := ⟨h.1, vx_Zq.kept h.2.1 hq, vx_Zq.kept h.2.2 hq⟩
/-- the words that don't travel by themselves -/
def xBad : List Cond := [.castable xN xN, .declares (Bundle.initS "java/lang/RuntimeException"), .declares (Bundle.initS "java/lang/Exception"), .declares (Bundle.initS Bundle.tN)]
set_option maxRecDepth 1000000 in
theorem xAt_good : ∀ w ∈ ((xOwn "SledgeVote" 150).filter vx_no).filter goodWord, w ∈ lw_tbl := by decide +kernel
set_option maxRecDepth 1000000 in
theorem xAt_rest : ∀ w ∈ ((xOwn "SledgeVote" 150).filter vx_no).filter (fun w => !goodWord w), w ∈ xBad := by decide +kernel
set_option maxRecDepth 1000000 in
theorem xAt_ot : ∀ w ∈ Cond.classLink "SledgeVote" 146 xN :: Cond.initialized xN :: (xOwn "SledgeVote" 150).filter vx_no, vx_ot w = true := by decide +kernel
set_option maxRecDepth 1000000 in
theorem xIn_1 : Cond.classLink "SledgeVote" 146 xN ∈ gTs := gTs_in 1308 (by decide +kernel) rfl
set_option maxRecDepth 1000000 in
theorem xIn_2 : Cond.initialized xN ∈ gTs := gTs_in 128 (by decide +kernel) rfl
section Memb
variable {xs : List Int32} {fv : Value} {D : va_G} {tc : FieldType → ClassId} {ad : Nat → Nat} {N0 : Nat} {l : Launch}
def cPx (xs : List Int32) (fv : Value) (D : va_G) (tc : FieldType → ClassId) (ad : Nat → Nat) (N0 : Nat) (w : aW) (U : State) : Prop := cPc (gP xs fv) gXt D tc ad N0 w U ∧ xF (fun z => N0 ≤ z) U U.heap
def xC (D : va_G) (tc : FieldType → ClassId) (ad : Nat → Nat) (N0 : Nat) (w : aW) : String → State → State → Prop := fun E st t => E = xN ∧ N0 + w.length + 1 ≤ t.heap.size ∧ wP D vwCl tc ad w t.heap ∧ va_F (fun z => N0 ≤ z) st t
theorem memX (hl : l.stackTraces = false) (had : ∀ i, i < aK → ad i = N0 + i) {x : Nat} {p0 p1 : Int32} {w : aW} {n f k : Nat} {L' : aL} (hgo : goN (gP xs fv) (ex (gP xs fv) f) 798 118 3 false k (0, aEnt 3 [.ref x, .int p0, .int p1], [], w, n) = some (18, L', [], w, n)) (hlen : w.length ≤ 600000) (hL' : L'.length = 3) :
    vx_Met l mN118 (Cond.code mN118 prog_1_method_8_code 3 (some .int) :: gTs) (rmO 798 1 6) (va_Pc ([Value.ref x, .int p0, .int p1].map (cV ad)) (cPx xs fv D tc ad N0 w)) (fun _ _ _ _ => False) (xC D tc ad N0 w) 1 6 (fun z => N0 ≤ z) := by
  refine vx_ofW (cc := prog_1_method_8_code) (maxL := 3) (ret := some .int) (by decide) rfl ?_
  intro p e s m args below meth c s₁ B hml htab hv
  obtain ⟨rfl, ⟨hK, hX, hsz, hP⟩, hF⟩ := hv
  have hts := atoms_spec (ws := Cond.code mN118 prog_1_method_8_code 3 (some .int) :: gTs) B.pre
  have hts : ∀ u ∈ gTs, u.before _ s = true := fun u hu => hts u (List.mem_cons_of_mem _ hu)
  have hown : s.vm.findClass "SledgeVote" = some m.cls := findClass_of_methodNamed B.named
  have hlocks := B.notSynchronized
  have hhas := aEnt_has ad (mL := 3) (av := [.ref x, .int p0, .int p1]) (Nat.le_refl 3)
  have hdec := (gMs xs fv 118 mI118 rfl).2.2.2.2.2.2.1
  rw [lg_entry_eq]
  refine goW (g := gP xs fv) (Ts := gTs) (st := gXt) (D := D) (tc := tc) (ad := ad) (N0 := N0) (l := l) (f := f) (gOk xs fv) had (q := mI118) rfl B.exec B.bytes hml hts hown (fun h => by cases h) hK hX (Nat.le_refl _) (Nat.le_refl _) (c0 := w.length) (n0 := n) (y := (18, L', [], w, n)) (Nat.le_add_left _ _) (Nat.le_add_left _ _) ?_ k (0, aEnt 3 [.ref x, .int p0, .int p1], [], w, n) hgo hlen s.heap [] 0 0 _ (Nat.zero_add _) (Nat.zero_add _) hsz hP va_S.rf hhas
  intro H1 locs1 cells1 slots1 ls1 z1 z2 z3 z4 z5 z6
  dsimp only at z1 z2 z3 z4 z6
  have e1 : cells1 = 0 := by omega
  have e2 : slots1 = 0 := by omega
  subst e1; subst e2
  refine xThrowS (pc := 18) (own := "SledgeVote") (ik := 146) (is := 148) (ic := 150) (A := fun z => N0 ≤ z) B.exec B.bytes hl hown (hts _ xIn_1) (hts _ xIn_2) (hX.2.2.2.2 ("SledgeVote", 148, "no such member, or nothing of that number to tell", 1000013) (by decide +kernel)) (vx_hat (fun u hu => hts u (List.mem_filter.mpr ⟨xAt_good u hu, (List.mem_filter.mp hu).2⟩)) xAt_rest (fun u hu => by simp only [xBad, List.mem_cons, List.not_mem_nil, or_false] at hu; rcases hu with rfl | rfl | rfl | rfl; exact va_Nw.use rfl hF.1.1; exact va_Nw.use rfl hF.1.2.1; exact va_Nw.use rfl hF.1.2.2.1; exact va_Nw.use rfl hF.1.2.2.2)) xAt_ot hF.2.1 hF.2.2 z5 ?_ (hdec 18 _ _ rfl) (hdec 21 _ _ rfl) (hdec 22 _ _ rfl) (hdec 24 _ _ rfl) (hdec 27 _ _ rfl) (fun y hy => (htab y hy).elim) (Nat.le_of_ble_eq_true rfl) (Nat.le_of_ble_eq_true rfl) (Nat.le_refl _) (Nat.le_refl _) hlocks ?_ z5.2.2 (Nat.le_refl _) (Nat.le_refl _)
  · rw [hml]
    exact z6.1.trans hL'
  · intro t ht hz hk
    refine ⟨rfl, by rw [z3] at hz; exact hz, z4.kept hk, ?_⟩
    refine ⟨Nat.le_trans z5.1 (Nat.le_trans (Nat.le_succ _) hz), fun q h1 h2 => ?_⟩
    rw [hk q (Nat.lt_of_lt_of_le h1 z5.1)]
    exact z5.2.1 q h1 h2
end Memb
