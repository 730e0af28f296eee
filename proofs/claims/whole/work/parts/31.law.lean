/-! ===== the law's own judgement, closed under steps ===== -/
/-- from the state x of the law's body the claim's end is reached -/
def VW (xs : List Int32) (fv : Value) (D : va_G) (tc : FieldType → ClassId) (ad : Nat → Nat) (p : Program) (l : Launch) (e : Env) (s : State) (m : MethodId) (b : Nat) (below : List Frame) (meth : Method) (c : Code) (x : aS) : Prop :=
  x.2.2.2.1.length ≤ 600000 → x.2.2.2.2 ≤ 7000000 → ∀ (H1 : Heap) (locs1 : List Loc) (ls1 : Array Slot), H1.size = s.heap.size + x.2.2.2.1.length → wP D vwCl tc ad x.2.2.2.1 H1 → va_S (fun z => s.heap.size ≤ z) s.heap H1 locs1 → aHas ad ls1 x.2.1 → W p l e room_1 s m #[Value.ref b] below meth c H1 locs1 x.2.2.2.1.length x.2.2.2.2 (lw_Z below #[Value.ref b] s) (F0 m x.1 ls1 (x.2.2.1.map (cV ad)))
section LawV
variable {xs : List Int32} {fv : Value} {D : va_G} {tc : FieldType → ClassId} {ad : Nat → Nat} {p : Program} {l : Launch} {e : Env} {s : State} {m : MethodId} {b : Nat} {below : List Frame} {meth : Method} {c : Code}
theorem VW_clo (hx : p.tables.exec = Jvm.exec) (hb : c.code = code) (hml : c.maxLocals = 7) (hown : s.vm.findClass R_law = some m.cls) (hts : ∀ u ∈ lw_tbl, u.before #[Value.ref b] s = true) (had : ∀ i, i < aK → ad i = s.heap.size + i) (hK : va_K D vwCl (aTys tc gOc) s) (hX : eX (fun z => s.heap.size ≤ z) ad gXt (gE xs) (gS fv) gOc s s.heap) : Clo (gP xs fv) 800 0 7 false (VW xs fv D tc ad p l e s m b below meth c) := by
  intro x y i len f hpc hst hy hlen hn H1 locs1 ls1 h1 h2 h3 h4
  have hl := st1_len (ex_mono (gP xs fv) f) hst
  have hy' := hy (hl.2.2.1 hlen) (hl.2.2.2 hn)
  refine st1W (g := gP xs fv) (Ts := gTs) (st := gXt) (D := D) (tc := tc) (ad := ad) (N0 := s.heap.size) (l := l) (f := f) (q := mI0) (c0 := 0) (n0 := 0) (gOk xs fv) had (exW (gOk xs fv) had f) rfl hpc hst hlen hx hb hml (fun u hu => hts u (List.mem_filter.mp hu).1) hown (fun h => by cases h) hK hX (Nat.le_of_ble_eq_true rfl) (Nat.le_of_ble_eq_true rfl) (Nat.add_zero _) (Nat.add_zero _) (Nat.le_trans (hl.2.2.1 hlen) (Nat.le_of_ble_eq_true rfl)) (Nat.le_trans (hl.2.2.2 hn) (Nat.le_of_ble_eq_true rfl)) h1 h2 h3 h4 ?_
  intro H2 locs2 cells2 slots2 ls2 z1 z2 z3 z4 z5 z6
  rw [Nat.add_zero] at z1 z2
  subst z1; subst z2
  exact hy' H2 locs2 ls2 z3 z4 z5 z6
theorem VW_end (hx : p.tables.exec = Jvm.exec) (hb : c.code = code) (hr : meth.sig.returnType = ret) (hlocks : meth.locks = false) {pc : Nat} {L : aL} {w : aW} {n : Nat} (hpc : decode code pc = .ok (.ireturn, 1)) : VW xs fv D tc ad p l e s m b below meth c (pc, L, [.int 1], w, n) := by
  intro hlen hn H1 locs1 ls1 h1 h2 h3 h4
  dsimp only at hlen hn
  refine va_forget h3.2.2 ?_
  refine W.widen (k := 601024) (n := 7293034) (Nat.le_trans hlen (Nat.le_of_ble_eq_true rfl)) (Nat.le_trans hn (Nat.le_of_ble_eq_true rfl)) ?_
  exact lw_ret hx hb hr hlocks hpc
end LawV
/-- what the pure part is told of the law's judgement -/
def LawV (xs : List Int32) (fv : Value) (V : aS → Prop) : Prop := Clo (gP xs fv) 800 0 7 false V ∧ ∀ (pc : Nat) (L : aL) (w : aW) (n : Nat), gC 0 pc = some (.ireturn, 1) → V (pc, L, [.int 1], w, n)
/-- whole_start, out of the pure part (the law's member call is still wanting among the rules) -/
theorem start_pure_open (hpure : ∀ (xs : List Int32) (fv : Value), xs.length ≤ 3072 → (fv = .null ∨ fv = .ref (aK + 9)) → ∀ V : aS → Prop, LawV xs fv V → V (0, aEnt 7 [.ref aK], [], [], 0)) {p : Program} {e : Env} {s : State} {m : MethodId} {below : List Frame} {meth : Method} {c : Code} (l : Launch) (hflags : l.flags = flags0) {b L : Nat} {xs : Nat → Int32} (hL : L ≤ 3072) (C0 : lw_At p s m meth c b L xs) : W p l e room_1 s m #[Value.ref b] below meth c s.heap [] 0 0 (lw_Z below #[Value.ref b] s) (entryFrame m ([Value.ref b] : List Value).toArray 7) := by
  obtain ⟨hx, hb, hr, hml, hown, hts, hX0, hbl, hlocks, hgv⟩ := id C0
  obtain ⟨D, tc, ad, fv, had, hadb, hfv, hK, hX⟩ := ex_ex hL C0
  have hV : LawV ((List.range L).map xs) fv (VW ((List.range L).map xs) fv D tc ad p l e s m b below meth c) := ⟨VW_clo hx hb hml hown hts had hK hX, fun pc L1 w n h => VW_end hx hb hr hlocks ((gMs ((List.range L).map xs) fv 0 mI0 rfl).2.2.2.2.2.2.1 _ _ _ h)⟩
  have h0 := hpure ((List.range L).map xs) fv (by simp; exact hL) hfv _ hV (Nat.zero_le _) (Nat.zero_le _) s.heap [] ((lg_sl ([Value.ref aK].map (cV ad)) ++ List.replicate (7 - (lg_sl ([Value.ref aK].map (cV ad))).length) Slot.unset).toArray) rfl (fun i c h => by simp at h) va_S.rf (aEnt_has ad (mL := 7) (av := [.ref aK]) (by decide))
  rw [lg_entry_eq]
  have e1 : [Value.ref b] = [Value.ref aK].map (cV ad) := by show [Value.ref b] = [Value.ref (ad aK)]; rw [hadb]
  rw [← e1] at h0
  exact h0
