/-! ===== the rules of the law's judgement, the member call among them; whole_start out of the pure part ===== -/
section LawV2
variable {xs : List Int32} {fv : Value} {D : va_G} {tc : FieldType → ClassId} {ad : Nat → Nat} {p : Program} {l : Launch} {e : Env} {s : State} {m : MethodId} {b : Nat} {below : List Frame} {meth : Method} {c : Code}
theorem cPx_pre {w : aW} {H : Heap} {locs : List Loc} (hK : va_K D vwCl (aTys tc gOc) s) (hX : eX (fun z => s.heap.size ≤ z) ad gXt (gE xs) (gS fv) gOc s s.heap) (hF : xF (fun z => s.heap.size ≤ z) s s.heap) (hsz : H.size = s.heap.size + w.length) (hP : wP D vwCl tc ad w H) (hS : va_S (fun z => s.heap.size ≤ z) s.heap H locs) (U : State) (hU : U.heap = H) (hW : s.WarmedH U.vm) : cPx xs fv D tc ad s.heap.size w U := by
  refine ⟨cPc_pre (g := gP xs fv) hK hX hsz hP hS U hU hW, ?_⟩
  rw [hU]
  exact (hF.kept hS.2.1).warm hW
/-- a call of the law's member, by its contract -/
theorem VW_memb (hx : p.tables.exec = Jvm.exec) (hb : c.code = code) (hml : c.maxLocals = 7) (hown : s.vm.findClass R_law = some m.cls) (hts : ∀ u ∈ lw_tbl, u.before #[Value.ref b] s = true) (hK : va_K D vwCl (aTys tc gOc) s) (hX : eX (fun z => s.heap.size ≤ z) ad gXt (gE xs) (gS fv) gOc s s.heap) (hF : xF (fun z => s.heap.size ≤ z) s s.heap)
    {pc x oid : Nat} {p0 p1 r : Int32} {L : aL} {S : List Value} {w w2 : aW} {n n2 : Nat} (hpc : decode code pc = .ok (.invokestatic 46, 3)) (hL : L.length = 7) (hcat : (S.map fun v => v.category).sum ≤ 8) (hw : w.length ≤ w2.length) (hn : n ≤ n2) (hw2 : w2.length ≤ 600000) (hn2 : n2 ≤ 7000000)
    (hM : Met l mNm (mWm :: gTs) (rmO 799 (w2.length - w.length) (n2 - n)) (va_Pc ([Value.ref x, .int p0, .int p1, .ref oid].map (cV ad)) (cPx xs fv D tc ad s.heap.size w)) (cQc (gP xs fv) D tc ad s.heap.size (some (.int r)) w2) (w2.length - w.length) (n2 - n) (fun z => s.heap.size ≤ z))
    (k : VW xs fv D tc ad p l e s m b below meth c (pc + 3, L, .int r :: S, w2, n2)) : VW xs fv D tc ad p l e s m b below meth c (pc, L, .ref oid :: .int p1 :: .int p0 :: .ref x :: S, w, n) := by
  intro hlen hn0 H1 locs1 ls1 h1 h2 h3 h4
  dsimp only at hlen hn0 h1 h2 h4
  have hts' : ∀ u ∈ gTs, u.before #[Value.ref b] s = true := fun u hu => hts u (List.mem_filter.mp hu).1
  refine aCall (st0 := (Value.ref oid :: .int p1 :: .int p0 :: .ref x :: S).map (cV ad)) (vx_runSW (As := [Value.ref x, .int p0, .int p1, .ref oid].map (cV ad)) (rest := S.map (cV ad)) ⟨hx, hb, hml, hown, hts'⟩ hM (vx_cwSW 4 hts' mGood rfl rfl rfl ⟨by decide, by decide, by decide⟩ ⟨Nat.le_of_ble_eq_true rfl, Nat.le_of_ble_eq_true rfl⟩) ⟨cPx_blind, fun U hU hW => ⟨rfl, cPx_pre hK hX hF h1 h2 h3 U hU hW⟩⟩ rfl rfl (h4.1.trans hL) rfl (by show 2 * 0 + _ ≤ 8; rw [cS_cat]; omega) hpc ⟨by show w.length + (w2.length - w.length) ≤ 601024; omega, by show n + (n2 - n) ≤ 7293034; omega⟩) h3 (fun H2 locs2 z1 z2 z3 => ?_)
  have e1 : w.length + (w2.length - w.length) = w2.length := by omega
  have e2 : n + (n2 - n) = n2 := by omega
  have k2 := k hw2 hn2 H2 locs2 ls1 z1 z2 z3 h4
  dsimp only at k2 ⊢
  rw [e1, e2]
  exact k2
end LawV2
/-- what the pure part is told of the law's judgement: steps; the end; the member call, returning or throwing -/
def LawR (xs : List Int32) (fv : Value) (V : aS → Prop) : Prop := Clo (gP xs fv) 800 0 7 false V ∧ (∀ (pc : Nat) (L : aL) (w : aW) (n : Nat), gC 0 pc = some (.ireturn, 1) → V (pc, L, [.int 1], w, n)) ∧
  (∀ (pc x oid : Nat) (p0 p1 v : Int32) (y : Int64) (L : aL) (S fs : List Value) (w w' : aW) (n n' : Nat), gC 0 pc = some (.invokestatic 46, 3) → L.length = 7 → (S.map fun v => v.category).sum ≤ 8 → w'.length ≤ 600000 → n' ≤ 7000000 → w[x]? = some (some (.inr (11, fs))) → w'[oid]? = some (some (.inl (.long, .inr (.inl [y])))) → Ru (gP xs fv) 798 118 (some (.int v), w', n') (0, aEnt 3 [.ref x, .int p0, .int p1], [], w, n) → V (pc + 3, L, .int 0 :: S, w'.set oid (some (.inl (.long, .inr (.inl [v.toInt64])))), n') → V (pc, L, .ref oid :: .int p1 :: .int p0 :: .ref x :: S, w, n)) ∧
  (∀ (pc x oid : Nat) (p0 p1 : Int32) (L L' : aL) (S fs : List Value) (w : aW) (n : Nat), gC 0 pc = some (.invokestatic 46, 3) → L.length = 7 → L'.length = 3 → (S.map fun v => v.category).sum ≤ 8 → w.length + 1 ≤ 600000 → n + 6 ≤ 7000000 → w[x]? = some (some (.inr (11, fs))) → Go (gP xs fv) 798 118 3 false (18, L', [], w, n) (0, aEnt 3 [.ref x, .int p0, .int p1], [], w, n) → V (pc + 3, L, .int 1 :: S, w ++ [none], n + 6) → V (pc, L, .ref oid :: .int p1 :: .int p0 :: .ref x :: S, w, n))
set_option maxRecDepth 1000000 in
theorem xF_ex {p : Program} {s : State} {m : MethodId} {meth : Method} {c : Code} {b L : Nat} {xs : Nat → Int32} (C0 : lw_At p s m meth c b L xs) : xF (fun z => s.heap.size ≤ z) s s.heap := by
  obtain ⟨hx, hb, hr, hml, hown, hts, hX, hbl, hlocks, hgv⟩ := id C0
  have hs := flat_of_before _ hgv
  have hA : ∀ a : Nat, a < s.heap.size → ¬ (fun z => s.heap.size ≤ z) a := fun a h => Nat.not_le.mpr h
  exact ⟨⟨va_Nw.of rfl (hts _ (List.mem_of_getElem? (i := 1310) (by decide +kernel))), va_Nw.of rfl (hts _ (List.mem_of_getElem? (i := 1312) (by decide +kernel))), va_Nw.of rfl (hts _ (List.mem_of_getElem? (i := 1314) (by decide +kernel))), va_Nw.of rfl (hts _ (List.mem_of_getElem? (i := 1316) (by decide +kernel)))⟩, vx_Zqof (hts _ (List.mem_of_getElem? (i := 1335) (by decide +kernel))) (hts _ (List.mem_of_getElem? (i := 125) (by decide +kernel))) (hs _ (by decide +kernel)) hA, vx_Zqof (hts _ (List.mem_of_getElem? (i := 1337) (by decide +kernel))) (hts _ (List.mem_of_getElem? (i := 125) (by decide +kernel))) (hs _ (by decide +kernel)) hA⟩
theorem start_pure (hpure : ∀ (xs : List Int32) (fv : Value), xs.length ≤ 3072 → (fv = .null ∨ fv = .ref (aK + 9)) → ∀ V : aS → Prop, LawR xs fv V → V (0, aEnt 7 [.ref aK], [], [], 0)) {p : Program} {e : Env} {s : State} {m : MethodId} {below : List Frame} {meth : Method} {c : Code} (l : Launch) (hflags : l.flags = flags0) {b L : Nat} {xs : Nat → Int32} (hL : L ≤ 3072) (C0 : lw_At p s m meth c b L xs) : W p l e room_1 s m #[Value.ref b] below meth c s.heap [] 0 0 (lw_Z below #[Value.ref b] s) (entryFrame m ([Value.ref b] : List Value).toArray 7) := by
  obtain ⟨hx, hb, hr, hml, hown, hts, hX0, hbl, hlocks, hgv⟩ := id C0
  obtain ⟨D, tc, ad, fv, had, hadb, hfv, hK, hX⟩ := ex_ex hL C0
  have hF := xF_ex C0
  have hl : l.stackTraces = false := by
    simp only [Launch.stackTraces, hflags]
    decide +kernel
  have hdec := (gMs ((List.range L).map xs) fv 0 mI0 rfl).2.2.2.2.2.2.1
  have hV : LawR ((List.range L).map xs) fv (VW ((List.range L).map xs) fv D tc ad p l e s m b below meth c) := by
    refine ⟨VW_clo hx hb hml hown hts had hK hX, fun pc L1 w n h => VW_end hx hb hr hlocks (hdec _ _ _ h), ?_, ?_⟩
    · intro pc x oid p0 p1 v y L1 S fs w w' n n' h1 h2 h3 h4 h5 h6 h7 ⟨f, hf⟩ k hlen hn
      obtain ⟨m1, m2, -, -⟩ := ex_mono _ f 798 118 _ _ w' n' hf
      dsimp only at m1 m2
      have hM := lmR (l := l) (D := D) (tc := tc) had hf hlen h6 h7
      exact VW_memb hx hb hml hown hts hK hX hF (w2 := w'.set oid (some (.inl (.long, .inr (.inl [v.toInt64]))))) (hdec _ _ _ h1) h2 h3 (by rw [List.length_set]; exact m1) m2 (by rw [List.length_set]; exact h4) h5 (by rw [List.length_set]; exact hM) k hlen hn
    · intro pc x oid p0 p1 L1 L' S fs w n h1 h2 h3 h4 h5 h6 h7 ⟨f, kk, hgo⟩ k hlen hn
      have hM := lmX (l := l) (D := D) (tc := tc) (oid := oid) hl had hgo hlen h3 h7
      have e1 : (w ++ [none]).length - w.length = 1 := by rw [List.length_append, List.length_singleton]; omega
      have e2 : n + 6 - n = 6 := by omega
      exact VW_memb hx hb hml hown hts hK hX hF (w2 := w ++ [none]) (n2 := n + 6) (hdec _ _ _ h1) h2 h4 (by rw [List.length_append]; omega) (by omega) (by rw [List.length_append, List.length_singleton]; exact h5) h6 (by rw [e1, e2]; exact hM) k hlen hn
  have h0 := hpure ((List.range L).map xs) fv (by simp; exact hL) hfv _ hV (Nat.zero_le _) (Nat.zero_le _) s.heap [] ((lg_sl ([Value.ref aK].map (cV ad)) ++ List.replicate (7 - (lg_sl ([Value.ref aK].map (cV ad))).length) Slot.unset).toArray) rfl (fun i c h => by simp at h) va_S.rf (aEnt_has ad (mL := 7) (av := [.ref aK]) (by show 1 ≤ 7; decide))
  rw [lg_entry_eq]
  have e1 : [Value.ref b] = [Value.ref aK].map (cV ad) := by show [Value.ref b] = [Value.ref (ad aK)]; rw [hadb]
  rw [← e1] at h0
  exact h0
