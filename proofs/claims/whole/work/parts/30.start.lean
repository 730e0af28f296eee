/-! ===== the law's entry: the world of the small machine ===== -/
def R_law : String := "SledgeVoteLaw"
def lw_P (b : Addr) (xs : List Int32) (args : Array Value) (s : State) : Prop := args = #[.ref b] ∧ s.IntsAt b xs ∧ xs.length ≤ 3072 ∧ (Jvm.Cond.and given_1 narrow_1).before args s = true
def lw_Q (_ : Array Value) (s : State) (o : Outcome) (t : State) : Prop := o = .returned (some (.int 1)) ∧ Framed s o t [] 601024 7293034
def lw_Z (below : List Frame) (a : Array Value) (s : State) : State → Prop := fun t => ∃ o, t.status = .running ∧ Ended t below o ∧ lw_Q a s o t
/-- the law's own end, with 1 on the stack, nothing written that was there before, its room as the claim has it -/
theorem lw_ret {p : Program} {l : Launch} {e : Env} {s : State} {m : MethodId} {below : List Frame} {meth : Method} {c : Code} {b : Nat} (hx : p.tables.exec = Jvm.exec) (hb : c.code = code) (hr : meth.sig.returnType = ret) (hlocks : meth.locks = false) {pc : Nat} {H : Heap} {ls : Array Slot} (hdg : decode code pc = .ok (.ireturn, 1)) : W p l e room_1 s m #[Value.ref b] below meth c H [] 601024 7293034 (lw_Z below #[Value.ref b] s) (F0 m pc ls [.int 1]) := by
  intro T hT X
  obtain ⟨fs, hret, hrun, hended, hW, hframe⟩ := X.leave (v := some (.int 1)) (hlocks := hlocks) (fun h => by rw [hr] at h; cases h)
  have hmeth' : T.vm.method? m = some meth := X.method'
  refine ⟨T.setFrames fs, ?_, .returned (some (.int 1)), hrun, hended, rfl, ⟨_, rfl⟩, hW, hframe⟩
  jvm_step X.here [X.here.top, hx, hb, hdg, hmeth', hr, ret, narrow_b1]
  (try refine ⟨rfl, ?_⟩); (try refine ⟨rfl, ?_⟩)
  first | (intro acts; rw [hret _ acts rfl rfl rfl]) | rw [hret _ _ rfl rfl rfl]
  exact Steps.refl _
/-- what holds at the law's entry: the machine, the code, the tables' words (any of lw_tbl by 'hts w (by decide +kernel)'), the script of L ints xs at the cell b, what the Statement gives of the start (any of its parts by flat_of_before) -/
def lw_At (p : Program) (s : State) (m : MethodId) (meth : Method) (c : Code) (b L : Nat) (xs : Nat → Int32) : Prop :=
  p.tables.exec = Jvm.exec ∧ c.code = code ∧ meth.sig.returnType = ret ∧ c.maxLocals = 7 ∧ s.vm.findClass R_law = some m.cls ∧ (∀ w ∈ lw_tbl, w.before #[Value.ref b] s = true) ∧ va_X b L xs s s.heap ∧ b < s.heap.size ∧ meth.locks = false ∧ (Jvm.Cond.and given_1 narrow_1).before #[Value.ref b] s = true
theorem st_arr {args : Array Value} {s : State} {A : Nat → Prop} (C n : String) (xs : List Int32) (hN : xs.length < 2 ^ 31) (hl : (Cond.laysStatic C n "[I").before args s = true) (hini : (Cond.initialized C).before args s = true) (harr : (Cond.arrayOf (.static C n "[I") .int).before args s = true) (hlen : (Cond.eq (.length (.static C n "[I")) (.int (Int32.ofNat xs.length))).before args s = true) (hel : ∀ j : Nat, j < xs.length → (Cond.eq (.elem (.static C n "[I") (.int (Int32.ofNat j))) (.int (xs.getD j 0))).before args s = true) (hA : ∀ a : Nat, a < s.heap.size → ¬ A a) : ∃ t : Nat, va_Z C n "[I" (.ref t) A s s.heap ∧ va_T .int t xs.length (fun j => .int (xs.getD j 0)) A s s.heap := by
  obtain ⟨t, ht, hT⟩ := va_Tof (f := fun j => .int (xs.getD j 0)) (A := A) hN harr (va_eqt hlen) (fun j hj => va_eqt (hel j hj)) hA
  exact ⟨t, va_Zof hl hini ht hA, hT⟩
theorem st_str {args : Array Value} {s : State} {A : Nat → Prop} (own : String) (idx : Nat) (tx : String) (bs : List Int32) (hN : bs.length < 2 ^ 31) (hr : (Cond.stringRef own idx tx).before args s = true) (hex : (Cond.exactly (.string own idx) "java/lang/String").before args s = true) (hco : (Cond.eq (.field (.string own idx) "java/lang/String" "coder" "B") (.int 0)).before args s = true) (har : (Cond.arrayOf (.field (.string own idx) "java/lang/String" "value" "[B") .byte).before args s = true) (hle : (Cond.eq (.length (.field (.string own idx) "java/lang/String" "value" "[B")) (.int (Int32.ofNat bs.length))).before args s = true) (hel : ∀ j : Nat, j < bs.length → (Cond.eq (.elem (.field (.string own idx) "java/lang/String" "value" "[B") (.int (Int32.ofNat j))) (.int (bs.getD j 0))).before args s = true) (hA : ∀ a : Nat, a < s.heap.size → ¬ A a) :
    ∃ a t : Nat, vk_R own idx tx a s ∧ (va_O "java/lang/String" a A s s.heap ∧ va_OF "java/lang/String" "coder" "B" (.int 0) a A s s.heap ∧ va_OF "java/lang/String" "value" "[B" (.ref t) a A s s.heap) ∧ va_T .byte t bs.length (fun j => .int (bs.getD j 0)) A s s.heap := by
  have z : ∀ i : Nat, i < 1 → i = 0 := fun i h => by omega
  obtain ⟨adK, adV, h1, h2⟩ := vk_Sof (N := 1) (tm := fun _ => Term.string own idx) (len := [bs.length]) (byt := [bs]) (A := A) (fun i hi => by rw [z i hi]; exact hN) (fun _ _ => hex) (fun _ _ => hco) (fun _ _ => har) (fun i hi => by rw [z i hi]; exact hle) (fun i hi j hj => by rw [z i hi] at hj ⊢; exact hel j hj) (fun i j hi hj hij => absurd ((z i hi).trans (z j hj).symm) hij) hA
  obtain ⟨g1, g2, g3, g4⟩ := h1.1 0 (by decide)
  exact ⟨adK 0, adV 0, vk_R.of hr (h2 0 (by decide)), ⟨g1, g2, g3⟩, g4⟩
theorem eFi_in : ∀ (l : List (Nat × (List Int32 ⊕ List Int32 ⊕ Nat))) (a : Nat) (x : List Int32 ⊕ List Int32 ⊕ Nat), eFi l a = some x → (a, x) ∈ l
  | [], _, _, h => by cases h
  | e :: t, a, x, h => by
    unfold eFi at h
    split at h
    next q => cases h; rw [← q]; exact List.mem_cons_self
    next => exact List.mem_cons_of_mem _ (eFi_in t a x h)
theorem tc_ex {b : Nat} {s : State} (hts : ∀ u ∈ lw_tbl, u.before #[Value.ref b] s = true) : ∃ tc : FieldType → ClassId, ∀ t ∈ aTy gOc, ArrOfT s (tc t) t ∧ va_RA s (tc t) t := by
  have prim : ∀ t : FieldType, (∀ cA, s.vm.findClass ("[" ++ t.toString) = some cA → va_RA s cA t) → (Cond.arrayClass t).before #[Value.ref b] s = true → ∃ c : ClassId, ArrOfT s c t ∧ va_RA s c t := by
    intro t ht h
    obtain ⟨c, k, comp, h1, h2, h3⟩ := Cond.arrayClass_spec h
    exact ⟨c, fun n z => ⟨fun k h => (by cases h), k, h2, comp, h3⟩, ht c h1⟩
  have obj : ∀ C : String, (Cond.arrayOver (.object C)).before #[Value.ref b] s = true → ∃ c : ClassId, ArrOfT s c (.object C) ∧ va_RA s c (.object C) := by
    intro C h
    obtain ⟨comp, c, k, h1, -, h3, h4, h5⟩ := Cond.arrayOver_spec h
    exact ⟨c, fun n z => ⟨fun k h => (by cases h), k, h3, comp, h4⟩, k, comp, h3, h4, h1, h5⟩
  have h0 : ∀ t : FieldType, ∃ c : ClassId, t ∈ aTy gOc → ArrOfT s c t ∧ va_RA s c t := by
    intro t
    by_cases ht : t ∈ aTy gOc
    · have key : ∃ c : ClassId, ArrOfT s c t ∧ va_RA s c t := by
        simp only [aTy, gOc, List.map, List.mem_append, List.mem_cons, List.not_mem_nil, or_false] at ht
        rcases ht with (rfl | rfl | rfl | rfl | rfl) | (rfl | rfl)
        · exact prim _ (fun _ h => h) (hts _ (List.mem_of_getElem? (i := 173) (by decide +kernel)))
        · exact prim _ (fun _ h => h) (hts _ (List.mem_of_getElem? (i := 2039) (by decide +kernel)))
        · exact prim _ (fun _ h => h) (hts _ (List.mem_of_getElem? (i := 153) (by decide +kernel)))
        · exact prim _ (fun _ h => h) (hts _ (List.mem_of_getElem? (i := 458) (by decide +kernel)))
        · exact prim _ (fun _ h => h) (hts _ (List.mem_of_getElem? (i := 767) (by decide +kernel)))
        · exact obj _ (hts _ (List.mem_of_getElem? (i := 194) (by decide +kernel)))
        · exact obj _ (hts _ (List.mem_of_getElem? (i := 341) (by decide +kernel)))
      obtain ⟨c, hc⟩ := key
      exact ⟨c, fun _ => hc⟩
    · exact ⟨0, fun h => absurd h ht⟩
  obtain ⟨tc, htc⟩ := Classical.axiomOfChoice h0
  exact ⟨tc, fun t ht => htc t ht⟩
theorem cl_ex {b : Nat} {s : State} (hts : ∀ u ∈ lw_tbl, u.before #[Value.ref b] s = true) : ∃ D : va_G, ∀ (k : Nat) (q : vw_C), vwCl[k]? = some q → u_Kn s q.1 q.2.1 q.2.2 (D.1 k) (D.2 k) := by
  have hin : ∀ {us : List Cond}, (∀ u ∈ us, u ∈ gTs) → ∀ u ∈ us, u ∈ lw_tbl := fun h u hu => (List.mem_filter.mp (h u hu)).1
  have h0 : ∀ k : Nat, ∃ p : ClassId × (Nat → Nat), ∀ q : vw_C, vwCl[k]? = some q → u_Kn s q.1 q.2.1 q.2.2 p.1 p.2 := by
    intro k
    match k with
    | 0 =>
      obtain ⟨c, iS, h⟩ := u_known (C := RX0) (T := TX0) (N := 7) (n := 7) hts (hin gIn0) (hts _ (List.mem_of_getElem? (i := 196) (by decide +kernel)))
      exact ⟨(c, iS), fun q hq => by cases hq; exact h⟩
    | 1 =>
      obtain ⟨c, iS, h⟩ := u_known (C := RX1) (T := TX1) (N := 4) (n := 4) hts (hin gIn1) (hts _ (List.mem_of_getElem? (i := 155) (by decide +kernel)))
      exact ⟨(c, iS), fun q hq => by cases hq; exact h⟩
    | 2 =>
      obtain ⟨c, iS, h⟩ := u_known (C := RX2) (T := TX2) (N := 2) (n := 2) hts (hin gIn2) (hts _ (List.mem_of_getElem? (i := 374) (by decide +kernel)))
      exact ⟨(c, iS), fun q hq => by cases hq; exact h⟩
    | 3 =>
      obtain ⟨c, iS, h⟩ := u_known (C := RX3) (T := TX3) (N := 7) (n := 7) hts (hin gIn3) (hts _ (List.mem_of_getElem? (i := 335) (by decide +kernel)))
      exact ⟨(c, iS), fun q hq => by cases hq; exact h⟩
    | 4 =>
      obtain ⟨c, iS, h⟩ := u_known (C := RX4) (T := TX4) (N := 1) (n := 1) hts (hin gIn4) (hts _ (List.mem_of_getElem? (i := 804) (by decide +kernel)))
      exact ⟨(c, iS), fun q hq => by cases hq; exact h⟩
    | 5 =>
      obtain ⟨c, iS, h⟩ := u_known (C := RX5) (T := TX5) (N := 4) (n := 4) hts (hin gIn5) (hts _ (List.mem_of_getElem? (i := 175) (by decide +kernel)))
      exact ⟨(c, iS), fun q hq => by cases hq; exact h⟩
    | 6 =>
      obtain ⟨c, iS, h⟩ := u_known (C := RX6) (T := TX6) (N := 8) (n := 8) hts (hin gIn6) (hts _ (List.mem_of_getElem? (i := 368) (by decide +kernel)))
      exact ⟨(c, iS), fun q hq => by cases hq; exact h⟩
    | 7 =>
      obtain ⟨c, iS, h⟩ := u_known (C := RX7) (T := TX7) (N := 7) (n := 7) hts (hin gIn7) (hts _ (List.mem_of_getElem? (i := 300) (by decide +kernel)))
      exact ⟨(c, iS), fun q hq => by cases hq; exact h⟩
    | 8 =>
      obtain ⟨c, iS, h⟩ := u_known (C := RX8) (T := TX8) (N := 11) (n := 11) hts (hin gIn8) (hts _ (List.mem_of_getElem? (i := 237) (by decide +kernel)))
      exact ⟨(c, iS), fun q hq => by cases hq; exact h⟩
    | 9 =>
      obtain ⟨c, iS, h⟩ := u_known (C := RX9) (T := TX9) (N := 2) (n := 2) hts (hin gIn9) (hts _ (List.mem_of_getElem? (i := 139) (by decide +kernel)))
      exact ⟨(c, iS), fun q hq => by cases hq; exact h⟩
    | 10 =>
      obtain ⟨c, iS, h⟩ := u_known (C := RX10) (T := TX10) (N := 9) (n := 9) hts (hin gIn10) (hts _ (List.mem_of_getElem? (i := 419) (by decide +kernel)))
      exact ⟨(c, iS), fun q hq => by cases hq; exact h⟩
    | 11 =>
      obtain ⟨c, iS, h⟩ := u_known (C := RX11) (T := TX11) (N := 16) (n := 16) hts (hin gIn11) (hts _ (List.mem_of_getElem? (i := 131) (by decide +kernel)))
      exact ⟨(c, iS), fun q hq => by cases hq; exact h⟩
    | 12 =>
      obtain ⟨c, iS, h⟩ := u_known (C := RX12) (T := TX12) (N := 53) (n := 53) hts (hin gIn12) (hts _ (List.mem_of_getElem? (i := 1376) (by decide +kernel)))
      exact ⟨(c, iS), fun q hq => by cases hq; exact h⟩
    | k + 13 => exact ⟨(0, fun _ => 0), fun q hq => by simp [vwCl] at hq⟩
  obtain ⟨f, hf⟩ := Classical.axiomOfChoice h0
  exact ⟨(fun k => (f k).1, fun k => (f k).2), fun k q h => hf k q h⟩
def aAd (N0 b : Nat) (t : List Nat) : Nat → Nat := fun i => if i < aK then N0 + i else if i = aK then b else t.getD (i - aK) 0
theorem aAd_lo (N0 b : Nat) (t : List Nat) : ∀ i, i < aK → aAd N0 b t i = N0 + i := fun i h => by unfold aAd; rw [if_pos h]
theorem aAd_hi (N0 b : Nat) (t : List Nat) (i : Nat) : aAd N0 b t (aK + 1 + i) = t.getD (i + 1) 0 := by
  unfold aAd
  rw [if_neg (by omega), if_neg (by omega), show aK + 1 + i - aK = i + 1 by omega]
set_option maxRecDepth 100000 in
set_option maxHeartbeats 4000000 in
theorem ex_ex {p : Program} {s : State} {m : MethodId} {meth : Method} {c : Code} {b L : Nat} {xs : Nat → Int32} (hL : L ≤ 3072) (C0 : lw_At p s m meth c b L xs) : ∃ (D : va_G) (tc : FieldType → ClassId) (ad : Nat → Nat) (fv : Value), (∀ i, i < aK → ad i = s.heap.size + i) ∧ ad aK = b ∧ (fv = .null ∨ fv = .ref (aK + 9)) ∧ va_K D vwCl (aTys tc gOc) s ∧ eX (fun z => s.heap.size ≤ z) ad gXt (gE ((List.range L).map xs)) (gS fv) gOc s s.heap := by
  obtain ⟨hx, hb, hr, hml, hown, hts, hX, hbl, hlocks, hgv⟩ := id C0
  have hs := flat_of_before _ hgv
  have hA : ∀ a : Nat, a < s.heap.size → ¬ (fun z => s.heap.size ≤ z) a := fun a h => Nat.not_le.mpr h
  obtain ⟨D, hD⟩ := cl_ex hts
  obtain ⟨tc, htc⟩ := tc_ex hts
  obtain ⟨t1, hZ1, hT1⟩ := st_arr (A := fun z => s.heap.size ≤ z) "SledgeVote$CantonReader" "USUAL" [5, 2, 6, 10, 3, 1, 0, 3, 0, 0, 3, 1, 3, 2] (by decide) (hts _ (List.mem_of_getElem? (i := 536) (by decide +kernel))) (hts _ (List.mem_of_getElem? (i := 106) (by decide +kernel))) (hs _ (by decide +kernel)) (hs _ (by decide +kernel)) (fun j hj => hs _ ((by decide +kernel : ∀ j : Nat, j < 14 → Cond.eq (.elem (.static "SledgeVote$CantonReader" "USUAL" "[I") (.int (Int32.ofNat j))) (.int (([5, 2, 6, 10, 3, 1, 0, 3, 0, 0, 3, 1, 3, 2] : List Int32).getD j 0)) ∈ flatC (Jvm.Cond.and given_1 narrow_1)) j hj)) hA
  obtain ⟨t2, hZ2, hT2⟩ := st_arr (A := fun z => s.heap.size ≤ z) "SledgeVote$CantonReader" "MOST_OF_KIND" [1, 6, 4, 6] (by decide) (hts _ (List.mem_of_getElem? (i := 643) (by decide +kernel))) (hts _ (List.mem_of_getElem? (i := 106) (by decide +kernel))) (hs _ (by decide +kernel)) (hs _ (by decide +kernel)) (fun j hj => hs _ ((by decide +kernel : ∀ j : Nat, j < 4 → Cond.eq (.elem (.static "SledgeVote$CantonReader" "MOST_OF_KIND" "[I") (.int (Int32.ofNat j))) (.int (([1, 6, 4, 6] : List Int32).getD j 0)) ∈ flatC (Jvm.Cond.and given_1 narrow_1)) j hj)) hA
  obtain ⟨t3, hZ3, hT3⟩ := st_arr (A := fun z => s.heap.size ≤ z) "SledgeVote$CantonReader" "FIRST" [0, 5, 9, 10, 14] (by decide) (hts _ (List.mem_of_getElem? (i := 645) (by decide +kernel))) (hts _ (List.mem_of_getElem? (i := 106) (by decide +kernel))) (hs _ (by decide +kernel)) (hs _ (by decide +kernel)) (fun j hj => hs _ ((by decide +kernel : ∀ j : Nat, j < 5 → Cond.eq (.elem (.static "SledgeVote$CantonReader" "FIRST" "[I") (.int (Int32.ofNat j))) (.int (([0, 5, 9, 10, 14] : List Int32).getD j 0)) ∈ flatC (Jvm.Cond.and given_1 narrow_1)) j hj)) hA
  obtain ⟨t4, hZ4, hT4⟩ := st_arr (A := fun z => s.heap.size ≤ z) "SledgeVote$CantonReader" "LOW" [3, 0, 1, 1, 0, 1, 0, 1, 0, 0, 1, 0, 0, 0] (by decide) (hts _ (List.mem_of_getElem? (i := 683) (by decide +kernel))) (hts _ (List.mem_of_getElem? (i := 106) (by decide +kernel))) (hs _ (by decide +kernel)) (hs _ (by decide +kernel)) (fun j hj => hs _ ((by decide +kernel : ∀ j : Nat, j < 14 → Cond.eq (.elem (.static "SledgeVote$CantonReader" "LOW" "[I") (.int (Int32.ofNat j))) (.int (([3, 0, 1, 1, 0, 1, 0, 1, 0, 0, 1, 0, 0, 0] : List Int32).getD j 0)) ∈ flatC (Jvm.Cond.and given_1 narrow_1)) j hj)) hA
  obtain ⟨t5, hZ5, hT5⟩ := st_arr (A := fun z => s.heap.size ≤ z) "SledgeVote$CantonReader" "HIGH" [9, 8, 60, 20, 9, 20, 8, 9, 1, 19, 9, 2, 9, 9] (by decide) (hts _ (List.mem_of_getElem? (i := 685) (by decide +kernel))) (hts _ (List.mem_of_getElem? (i := 106) (by decide +kernel))) (hs _ (by decide +kernel)) (hs _ (by decide +kernel)) (fun j hj => hs _ ((by decide +kernel : ∀ j : Nat, j < 14 → Cond.eq (.elem (.static "SledgeVote$CantonReader" "HIGH" "[I") (.int (Int32.ofNat j))) (.int (([9, 8, 60, 20, 9, 20, 8, 9, 1, 19, 9, 2, 9, 9] : List Int32).getD j 0)) ∈ flatC (Jvm.Cond.and given_1 narrow_1)) j hj)) hA
  have hZ6 : va_Z "java/lang/String" "COMPACT_STRINGS" "Z" (.int 1) (fun z => s.heap.size ≤ z) s s.heap := va_Zof (hts _ (List.mem_of_getElem? (i := 569) (by decide +kernel))) (hts _ (List.mem_of_getElem? (i := 118) (by decide +kernel))) (va_eqt (hs _ (by decide +kernel))) hA
  have hZ7 : va_Zq "jdk/internal/util/Preconditions" "SIOOBE_FORMATTER" "Ljava/util/function/BiFunction;" (fun z => s.heap.size ≤ z) s s.heap := va_Zqof (hts _ (List.mem_of_getElem? (i := 612) (by decide +kernel))) (hts _ (List.mem_of_getElem? (i := 122) (by decide +kernel))) (hs _ (by decide +kernel)) hA
  obtain ⟨a0, v0, hR0, hO0, hB0⟩ := st_str (A := fun z => s.heap.size ≤ z) "SledgeVote$CantonReader" 69 "sbim" [115, 98, 105, 109] (by decide) (hts _ (List.mem_of_getElem? (i := 555) (by decide +kernel))) (hs _ (by decide +kernel)) (hs _ (by decide +kernel)) (hs _ (by decide +kernel)) (hs _ (by decide +kernel)) (fun j hj => hs _ ((by decide +kernel : ∀ j : Nat, j < 4 → Cond.eq (.elem (.field (.string "SledgeVote$CantonReader" 69) "java/lang/String" "value" "[B") (.int (Int32.ofNat j))) (.int (([115, 98, 105, 109] : List Int32).getD j 0)) ∈ flatC (Jvm.Cond.and given_1 narrow_1)) j hj)) hA
  obtain ⟨a1, v1, hR1, hO1, hB1⟩ := st_str (A := fun z => s.heap.size ≤ z) "SledgeVote$CantonReader" 105 "wogryrckdrwlhs" [119, 111, 103, 114, 121, 114, 99, 107, 100, 114, 119, 108, 104, 115] (by decide) (hts _ (List.mem_of_getElem? (i := 653) (by decide +kernel))) (hs _ (by decide +kernel)) (hs _ (by decide +kernel)) (hs _ (by decide +kernel)) (hs _ (by decide +kernel)) (fun j hj => hs _ ((by decide +kernel : ∀ j : Nat, j < 14 → Cond.eq (.elem (.field (.string "SledgeVote$CantonReader" 105) "java/lang/String" "value" "[B") (.int (Int32.ofNat j))) (.int (([119, 111, 103, 114, 121, 114, 99, 107, 100, 114, 119, 108, 104, 115] : List Int32).getD j 0)) ∈ flatC (Jvm.Cond.and given_1 narrow_1)) j hj)) hA
  obtain ⟨a2, v2, hR2, hO2, hB2⟩ := st_str (A := fun z => s.heap.size ≤ z) "SledgeVote$LawReader" 90 "whpnrc" [119, 104, 112, 110, 114, 99] (by decide) (hts _ (List.mem_of_getElem? (i := 750) (by decide +kernel))) (hs _ (by decide +kernel)) (hs _ (by decide +kernel)) (hs _ (by decide +kernel)) (hs _ (by decide +kernel)) (fun j hj => hs _ ((by decide +kernel : ∀ j : Nat, j < 6 → Cond.eq (.elem (.field (.string "SledgeVote$LawReader" 90) "java/lang/String" "value" "[B") (.int (Int32.ofNat j))) (.int (([119, 104, 112, 110, 114, 99] : List Int32).getD j 0)) ∈ flatC (Jvm.Cond.and given_1 narrow_1)) j hj)) hA
  obtain ⟨a3, v3, hR3, hO3, hB3⟩ := st_str (A := fun z => s.heap.size ≤ z) "SledgeVote" 148 "no such member, or nothing of that number to tell" [110, 111, 32, 115, 117, 99, 104, 32, 109, 101, 109, 98, 101, 114, 44, 32, 111, 114, 32, 110, 111, 116, 104, 105, 110, 103, 32, 111, 102, 32, 116, 104, 97, 116, 32, 110, 117, 109, 98, 101, 114, 32, 116, 111, 32, 116, 101, 108, 108] (by decide) (hts _ (List.mem_of_getElem? (i := 1347) (by decide +kernel))) (hs _ (by decide +kernel)) (hs _ (by decide +kernel)) (hs _ (by decide +kernel)) (hs _ (by decide +kernel)) (fun j hj => hs _ ((by decide +kernel : ∀ j : Nat, j < 49 → Cond.eq (.elem (.field (.string "SledgeVote" 148) "java/lang/String" "value" "[B") (.int (Int32.ofNat j))) (.int (([110, 111, 32, 115, 117, 99, 104, 32, 109, 101, 109, 98, 101, 114, 44, 32, 111, 114, 32, 110, 111, 116, 104, 105, 110, 103, 32, 111, 102, 32, 116, 104, 97, 116, 32, 110, 117, 109, 98, 101, 114, 32, 116, 111, 32, 116, 101, 108, 108] : List Int32).getD j 0)) ∈ flatC (Jvm.Cond.and given_1 narrow_1)) j hj)) hA
  have hTx : va_T .int b ((List.range L).map xs).length (fun j => .int (((List.range L).map xs).getD j 0)) (fun z => s.heap.size ≤ z) s s.heap := by
    obtain ⟨scr, h1, h2, h3, h4, h5⟩ := hX
    have hl : ((List.range L).map xs).length = L := by simp
    refine ⟨scr, h1, h2, h3, by rw [hl, h4] <;> exact Nat.le_refl _, by rw [hl, h4] <;> rfl, fun j hj => ?_, Nat.not_le.mpr hbl⟩
    rw [hl] at hj
    rw [h5 j hj]
    simp [List.getD, hj]
  obtain ⟨fa, fv, hfv, hZ7'⟩ : ∃ (fa : Nat) (fv : Value), (fv = .null ∨ fv = .ref (aK + 9)) ∧ ∀ ad : Nat → Nat, ad (aK + 9) = fa → va_Z "jdk/internal/util/Preconditions" "SIOOBE_FORMATTER" "Ljava/util/function/BiFunction;" (cV ad fv) (fun z => s.heap.size ≤ z) s s.heap := by
    rcases hZ7 with h | ⟨t, h⟩
    · exact ⟨0, .null, Or.inl rfl, fun ad _ => h⟩
    · exact ⟨t, .ref (aK + 9), Or.inr rfl, fun ad e => by show va_Z _ _ _ (.ref (ad (aK + 9))) _ _ _; rw [e]; exact h⟩
  have adE := aAd_hi s.heap.size b [0, t1, t2, t3, t4, t5, 0, 0, 0, fa, a0, a1, a2, a3, 0, 0, 0, 0, 0, 0, v0, v1, v2, v3]
  refine ⟨D, tc, aAd s.heap.size b [0, t1, t2, t3, t4, t5, 0, 0, 0, fa, a0, a1, a2, a3, 0, 0, 0, 0, 0, 0, v0, v1, v2, v3], fv, aAd_lo _ _ _, by unfold aAd; rw [if_neg (by decide), if_pos rfl], hfv, ⟨hD, fun k q hk => ?_⟩, ?_, ?_, ?_, ?_, ?_⟩
  · obtain ⟨t, ht, rfl⟩ := List.mem_map.mp (List.mem_of_getElem? hk)
    exact htc t ht
  · intro q hq
    have hq : q ∈ gSt := hq
    simp only [gSt, List.mem_cons, List.not_mem_nil, or_false] at hq
    rcases hq with rfl | rfl | rfl | rfl | rfl | rfl | rfl
    · exact ⟨.ref 1000001, rfl, by show va_Z _ _ _ (.ref (aAd _ _ _ (aK + 1 + 0))) _ _ _; rw [adE]; exact hZ1⟩
    · exact ⟨.ref 1000002, rfl, by show va_Z _ _ _ (.ref (aAd _ _ _ (aK + 1 + 1))) _ _ _; rw [adE]; exact hZ2⟩
    · exact ⟨.ref 1000003, rfl, by show va_Z _ _ _ (.ref (aAd _ _ _ (aK + 1 + 2))) _ _ _; rw [adE]; exact hZ3⟩
    · exact ⟨.ref 1000004, rfl, by show va_Z _ _ _ (.ref (aAd _ _ _ (aK + 1 + 3))) _ _ _; rw [adE]; exact hZ4⟩
    · exact ⟨.ref 1000005, rfl, by show va_Z _ _ _ (.ref (aAd _ _ _ (aK + 1 + 4))) _ _ _; rw [adE]; exact hZ5⟩
    · exact ⟨.int 1, rfl, hZ6⟩
    · exact ⟨fv, rfl, hZ7' _ (adE 8)⟩
  · intro a x hx
    unfold gE at hx
    split at hx
    · cases hx
    · split at hx
      next e => cases hx; subst e; show va_T _ (aAd _ _ _ aK) _ _ _ _ _; rw [show aAd s.heap.size b _ aK = b by unfold aAd; rw [if_neg (by decide), if_pos rfl]]; exact hTx
      next =>
        have hm := eFi_in _ _ _ hx
        simp only [gEs, List.mem_cons, List.not_mem_nil, or_false, Prod.mk.injEq] at hm
        rcases hm with ⟨rfl, rfl⟩ | ⟨rfl, rfl⟩ | ⟨rfl, rfl⟩ | ⟨rfl, rfl⟩ | ⟨rfl, rfl⟩ | ⟨rfl, rfl⟩ | ⟨rfl, rfl⟩ | ⟨rfl, rfl⟩ | ⟨rfl, rfl⟩ | ⟨rfl, rfl⟩ | ⟨rfl, rfl⟩ | ⟨rfl, rfl⟩ | ⟨rfl, rfl⟩
        · show va_T _ (aAd _ _ _ (aK + 1 + 0)) _ _ _ _ _; rw [adE]; exact hT1
        · show va_T _ (aAd _ _ _ (aK + 1 + 1)) _ _ _ _ _; rw [adE]; exact hT2
        · show va_T _ (aAd _ _ _ (aK + 1 + 2)) _ _ _ _ _; rw [adE]; exact hT3
        · show va_T _ (aAd _ _ _ (aK + 1 + 3)) _ _ _ _ _; rw [adE]; exact hT4
        · show va_T _ (aAd _ _ _ (aK + 1 + 4)) _ _ _ _ _; rw [adE]; exact hT5
        · show va_O _ (aAd _ _ _ (aK + 1 + 9)) _ _ _ ∧ va_OF _ _ _ _ (aAd _ _ _ (aK + 1 + 9)) _ _ _ ∧ va_OF _ _ _ (.ref (aAd _ _ _ (aK + 1 + 19))) (aAd _ _ _ (aK + 1 + 9)) _ _ _; rw [adE, adE]; exact hO0
        · show va_T _ (aAd _ _ _ (aK + 1 + 19)) _ _ _ _ _; rw [adE]; exact hB0
        · show va_O _ (aAd _ _ _ (aK + 1 + 10)) _ _ _ ∧ va_OF _ _ _ _ (aAd _ _ _ (aK + 1 + 10)) _ _ _ ∧ va_OF _ _ _ (.ref (aAd _ _ _ (aK + 1 + 20))) (aAd _ _ _ (aK + 1 + 10)) _ _ _; rw [adE, adE]; exact hO1
        · show va_T _ (aAd _ _ _ (aK + 1 + 20)) _ _ _ _ _; rw [adE]; exact hB1
        · show va_O _ (aAd _ _ _ (aK + 1 + 11)) _ _ _ ∧ va_OF _ _ _ _ (aAd _ _ _ (aK + 1 + 11)) _ _ _ ∧ va_OF _ _ _ (.ref (aAd _ _ _ (aK + 1 + 21))) (aAd _ _ _ (aK + 1 + 11)) _ _ _; rw [adE, adE]; exact hO2
        · show va_T _ (aAd _ _ _ (aK + 1 + 21)) _ _ _ _ _; rw [adE]; exact hB2
        · show va_O _ (aAd _ _ _ (aK + 1 + 12)) _ _ _ ∧ va_OF _ _ _ _ (aAd _ _ _ (aK + 1 + 12)) _ _ _ ∧ va_OF _ _ _ (.ref (aAd _ _ _ (aK + 1 + 22))) (aAd _ _ _ (aK + 1 + 12)) _ _ _; rw [adE, adE]; exact hO3
        · show va_T _ (aAd _ _ _ (aK + 1 + 22)) _ _ _ _ _; rw [adE]; exact hB3
  · intro C hC
    have hC : C ∈ gOc := hC
    simp only [gOc, List.mem_cons, List.not_mem_nil, or_false] at hC
    rcases hC with rfl | rfl
    · exact va_AO.of (hts _ (List.mem_of_getElem? (i := 194) (by decide +kernel)))
    · exact va_AO.of (hts _ (List.mem_of_getElem? (i := 341) (by decide +kernel)))
  · intro q hq
    have hq : q ∈ gNl := hq
    simp only [gNl, List.mem_cons, List.not_mem_nil, or_false] at hq
    rcases hq with rfl | rfl | rfl | rfl | rfl | rfl
    · exact va_Nw.of rfl (hts _ (List.mem_of_getElem? (i := 140) (by decide +kernel)))
    · exact va_Nw.of rfl (hts _ (List.mem_of_getElem? (i := 197) (by decide +kernel)))
    · exact va_Nw.of rfl (hts _ (List.mem_of_getElem? (i := 238) (by decide +kernel)))
    · exact va_Nw.of rfl (hts _ (List.mem_of_getElem? (i := 342) (by decide +kernel)))
    · exact va_Nw.of rfl (hts _ (List.mem_of_getElem? (i := 389) (by decide +kernel)))
    · exact va_Nw.of rfl (hts _ (List.mem_of_getElem? (i := 427) (by decide +kernel)))
  · intro q hq
    have hq : q ∈ gSl := hq
    simp only [gSl, List.mem_cons, List.not_mem_nil, or_false] at hq
    rcases hq with rfl | rfl | rfl | rfl
    · show vk_R _ _ _ (aAd _ _ _ (aK + 1 + 9)) _; rw [adE]; exact hR0
    · show vk_R _ _ _ (aAd _ _ _ (aK + 1 + 10)) _; rw [adE]; exact hR1
    · show vk_R _ _ _ (aAd _ _ _ (aK + 1 + 11)) _; rw [adE]; exact hR2
    · show vk_R _ _ _ (aAd _ _ _ (aK + 1 + 12)) _; rw [adE]; exact hR3
