/-! ===== the tables keep to the words ===== -/
def inT (ps : List Nat) (j : Nat) (u : Cond) : Bool := match ps[j]? with
  | some p => decide (lw_tbl[p]? = some u) && goodWord u
  | none => false
theorem inT_ok {ps : List Nat} {j : Nat} {u : Cond} (h : inT ps j u = true) : u ∈ gTs := by
  unfold inT at h
  split at h
  next p hp =>
    simp only [Bool.and_eq_true, decide_eq_true_eq] at h
    exact gTs_in p h.1 h.2
  next => cases h
def ckE (own : String) (e : aLe) : Bool := match e with
  | (idx, t, a, z, ps) =>
    if t = 0 ∨ t = 6 ∨ t = 10 then (match vwCl[a]? with
      | some (C, T, N) => decide (z.toNat < N) && ((decide (t = 10) || decide ((T z.toNat).2.2.2 = (t == 6))) && ((!(t == 6) || decide ((T z.toNat).1 = own)) && inT ps 0 (.fieldLink own idx (T z.toNat).1 (T z.toNat).2.1 (T z.toNat).2.2.1)))
      | none => false)
    else if t = 3 then inT ps 0 (.constant own idx (Int32.ofInt z))
    else if t = 4 then inT ps 0 (.constantLong own idx (Int64.ofInt z))
    else if t = 5 then (match gSt[a]? with
      | some q => decide (q.2 = a) && inT ps 0 (.fieldLink own idx q.1.1 q.1.2.1 q.1.2.2)
      | none => false)
    else if t = 2 then (match vwCl[a]? with
      | some (C, T, N) => inT ps 0 (.classLink own idx C) && (inT ps 1 (.instantiable C N) && inT ps 2 (.initialized C))
      | none => false)
    else if t = 8 then (if a = 0 then inT ps 0 (.fieldLink own idx "java/lang/String" "value" "[B") else inT ps 0 (.fieldLink own idx "java/lang/String" "coder" "B"))
    else if t = 11 then gSl.any (fun q => decide (q.1 = own) && (decide (q.2.1 = idx) && decide (q.2.2.2 = a)))
    else if t = 7 then inT ps 0 (.methodLink own idx (mName a))
    else true
def ckL (own : String) (e : aLe) : Bool := match e with
  | (idx, t, a, z, ps) => if t = 1 then (match gI a with
      | some q => decide (a ≠ 0) &&
        (if z = 0 then inT ps 0 (.methodLink own idx q.1) && inT ps 1 (.static q.1)
        else if z = 1 then inT ps 0 (.methodLink own idx q.1) && (inT ps 1 (.instanceMethod q.1) && (inT ps 2 (.selects q.1.cls q.1 q.1) && (match vwCl[q.2.2.2.2.2.1]? with
          | some (C, _, _) => decide (C = q.1.cls)
          | none => false)))
        else if z = 2 then inT ps 0 (.methodLink own idx q.1) && (inT ps 1 (.instanceMethod q.1) && (decide (q.1.name = "<init>") && decide (q.2.2.2.1 = none)))
        else if z = 3 then gNl.any (fun n => decide (n.1 = own) && (decide (n.2.1 = idx) && decide (n.2.2.1 = q.1))) && (inT ps 1 (.instanceMethod q.1) && (decide (q.1.name = "<init>") && decide (q.2.2.2.1 = none)))
        else if z = 4 then inT ps 0 (.methodLink own idx q.1) && (inT ps 1 (.instanceMethod q.1) && (inT ps 2 (.selects q.1.cls q.1 q.1) && decide (q.1.cls = "java/lang/String")))
        else true)
      | none => true) else true
theorem ckE_ok {own : String} {lt : List aLe} (h : lt.all (ckE own) = true) : lkOk vwCl gTs gXt own (lFi lt) := by
  have key : ∀ idx t a z, lFi lt idx = some (t, a, z) → ∃ ps, ckE own (idx, t, a, z, ps) = true := by
    intro idx t a z hi
    obtain ⟨ps, hp⟩ := lFi_in lt idx t a z hi
    exact ⟨ps, List.all_eq_true.mp h _ hp⟩
  refine ⟨?_, ?_, ?_, ?_, ?_, ?_, ?_, ?_⟩
  · intro idx t ci k hi ht
    obtain ⟨ps, hc⟩ := key _ _ _ _ hi
    simp only [ckE] at hc
    rw [if_pos ht] at hc
    split at hc
    next C T N hv =>
      simp only [Bool.and_eq_true, decide_eq_true_eq, Bool.or_eq_true, Bool.not_eq_true'] at hc
      obtain ⟨c1, c2, c3, c4⟩ := hc
      refine ⟨C, T, N, hv, c1, fun z9 => c2.resolve_left z9, fun z6 => ?_, inT_ok c4⟩
      rcases c3 with c3 | c3
      · rw [c3] at z6; cases z6
      · exact c3
    next => cases hc
  · intro idx a z hi
    obtain ⟨ps, hc⟩ := key _ _ _ _ hi
    exact inT_ok (ps := ps) (j := 0) (by simpa [ckE] using hc)
  · intro idx a z hi
    obtain ⟨ps, hc⟩ := key _ _ _ _ hi
    exact inT_ok (ps := ps) (j := 0) (by simpa [ckE] using hc)
  · intro idx a z hi
    obtain ⟨ps, hc⟩ := key _ _ _ _ hi
    simp only [ckE] at hc
    rw [if_neg (by decide), if_neg (by decide), if_neg (by decide), if_pos trivial] at hc
    split at hc
    next q hq =>
      simp only [Bool.and_eq_true, decide_eq_true_eq] at hc
      exact ⟨q, List.mem_of_getElem? hq, hc.1, inT_ok hc.2⟩
    next => cases hc
  · intro idx a z hi
    obtain ⟨ps, hc⟩ := key _ _ _ _ hi
    simp only [ckE] at hc
    rw [if_neg (by decide), if_neg (by decide), if_neg (by decide), if_neg (by decide), if_pos trivial] at hc
    split at hc
    next C T N hv =>
      simp only [Bool.and_eq_true] at hc
      exact ⟨C, T, N, hv, inT_ok hc.1, inT_ok hc.2.1, inT_ok hc.2.2⟩
    next => cases hc
  · intro idx a z hi
    obtain ⟨ps, hc⟩ := key _ _ _ _ hi
    simp only [ckE] at hc
    rw [if_neg (by decide), if_neg (by decide), if_neg (by decide), if_neg (by decide), if_neg (by decide), if_pos trivial] at hc
    by_cases ha : a = 0
    · rw [if_pos ha] at hc ⊢
      exact inT_ok hc
    · rw [if_neg ha] at hc ⊢
      exact inT_ok hc
  · intro idx a z hi
    obtain ⟨ps, hc⟩ := key _ _ _ _ hi
    simp only [ckE] at hc
    rw [if_neg (by decide), if_neg (by decide), if_neg (by decide), if_neg (by decide), if_neg (by decide), if_neg (by decide), if_pos trivial] at hc
    obtain ⟨q, hq, hc⟩ := List.any_eq_true.mp hc
    simp only [Bool.and_eq_true, decide_eq_true_eq] at hc
    obtain ⟨q1, q2, q3, q4⟩ := q
    obtain ⟨c1, c2, c3⟩ := hc
    dsimp only at c1 c2 c3
    subst c1; subst c2; subst c3
    exact ⟨q3, hq⟩
  · intro idx a z hi
    obtain ⟨ps, hc⟩ := key _ _ _ _ hi
    exact inT_ok (ps := ps) (j := 0) (by simpa [ckE] using hc)
theorem ckL_ok {own : String} {lt : List aLe} (h : lt.all (ckL own) = true) : ∀ idx k' z q', lFi lt idx = some (1, k', z) → gI k' = some q' → k' ≠ 0 ∧
    (z = 0 → Cond.methodLink own idx q'.1 ∈ gTs ∧ Cond.static q'.1 ∈ gTs) ∧
    (z = 1 → Cond.methodLink own idx q'.1 ∈ gTs ∧ Cond.instanceMethod q'.1 ∈ gTs ∧ Cond.selects q'.1.cls q'.1 q'.1 ∈ gTs ∧ ∃ T N, vwCl[q'.2.2.2.2.2.1]? = some (q'.1.cls, T, N)) ∧
    (z = 2 → Cond.methodLink own idx q'.1 ∈ gTs ∧ Cond.instanceMethod q'.1 ∈ gTs ∧ q'.1.name = "<init>" ∧ q'.2.2.2.1 = none) ∧
    (z = 3 → (∃ host, (own, idx, q'.1, host) ∈ gNl) ∧ Cond.instanceMethod q'.1 ∈ gTs ∧ q'.1.name = "<init>" ∧ q'.2.2.2.1 = none) ∧
    (z = 4 → Cond.methodLink own idx q'.1 ∈ gTs ∧ Cond.instanceMethod q'.1 ∈ gTs ∧ Cond.selects q'.1.cls q'.1 q'.1 ∈ gTs ∧ q'.1.cls = "java/lang/String") := by
  intro idx k' z q' hi hq
  obtain ⟨ps, hp⟩ := lFi_in lt idx 1 k' z hi
  have hc := List.all_eq_true.mp h _ hp
  simp only [ckL] at hc
  rw [if_pos trivial, hq] at hc
  simp only [Bool.and_eq_true, decide_eq_true_eq] at hc
  obtain ⟨hk, hc⟩ := hc
  refine ⟨hk, ?_, ?_, ?_, ?_, ?_⟩
  · rintro rfl
    rw [if_pos rfl, Bool.and_eq_true] at hc
    exact ⟨inT_ok hc.1, inT_ok hc.2⟩
  · rintro rfl
    rw [if_neg (by decide), if_pos rfl] at hc
    simp only [Bool.and_eq_true] at hc
    obtain ⟨c1, c2, c3, c4⟩ := hc
    refine ⟨inT_ok c1, inT_ok c2, inT_ok c3, ?_⟩
    split at c4
    next C T N hv => exact ⟨T, N, by rw [hv, of_decide_eq_true c4]⟩
    next => cases c4
  · rintro rfl
    rw [if_neg (by decide), if_neg (by decide), if_pos rfl] at hc
    simp only [Bool.and_eq_true, decide_eq_true_eq] at hc
    exact ⟨inT_ok hc.1, inT_ok hc.2.1, hc.2.2.1, hc.2.2.2⟩
  · rintro rfl
    rw [if_neg (by decide), if_neg (by decide), if_neg (by decide), if_pos rfl] at hc
    simp only [Bool.and_eq_true, decide_eq_true_eq] at hc
    obtain ⟨q, hn, hc1⟩ := List.any_eq_true.mp hc.1
    simp only [Bool.and_eq_true, decide_eq_true_eq] at hc1
    obtain ⟨q1, q2, q3, q4⟩ := q
    obtain ⟨c1, c2, c3⟩ := hc1
    dsimp only at c1 c2 c3
    subst c1; subst c2; subst c3
    exact ⟨⟨q4, hn⟩, inT_ok hc.2.1, hc.2.2.1, hc.2.2.2⟩
  · rintro rfl
    rw [if_neg (by decide), if_neg (by decide), if_neg (by decide), if_neg (by decide), if_pos rfl] at hc
    simp only [Bool.and_eq_true, decide_eq_true_eq] at hc
    exact ⟨inT_ok hc.1, inT_ok hc.2.1, inT_ok hc.2.2.1, hc.2.2.2⟩
/-- a method's own facts: where its code and its class's word stand -/
def ckM (k : Nat) (q : aMI) (ps : List Nat) : Bool := plainName q.1.cls && ((decide (k = 0) || inT ps 0 (.code q.1 q.2.1 q.2.2.1 q.2.2.2.1)) && (inT ps 1 (.initialized q.1.cls) && (decide (q.1.cls ≠ "java/lang/invoke/MethodHandle") && (decide (q.1.cls ≠ "java/lang/invoke/VarHandle") && (decide ((parseMethodDescriptor q.1.desc).map (fun d => d.parameters.length) = some q.2.2.2.2.1) && (decide (q.2.2.1 ≤ 80) && (!q.2.2.2.2.2.2 || decide (q.1.name = "<init>"))))))))
theorem ckM_ok {xs : List Int32} {fv : Value} {k : Nat} {q : aMI} {ps : List Nat} {own : String} {lt : List aLe} {cc : ByteArray} {ck : List (Nat × List (Nat × Instr × Nat))} (h : ckM k q ps = true) (hd : cOk cc ck) (hcc : q.2.1 = cc) (hC : ∀ pc, gC k pc = cLk ck pc) (ho : q.1.cls = own) (hL : gL k = lFi lt) (h1 : lt.all (ckE own) = true) (h2 : lt.all (ckL own) = true) : mOk (gP xs fv) gTs gXt k q := by
  subst ho
  subst hcc
  simp only [ckM, Bool.and_eq_true, decide_eq_true_eq, Bool.or_eq_true, Bool.not_eq_true'] at h
  obtain ⟨c1, c2, c3, c4, c5, c6, c7, c8⟩ := h
  refine ⟨c1, fun hk => ?_, inT_ok c3, ⟨c4, c5, c6⟩, c7, fun hi => ?_, fun pc i len hp => ?_, ?_, ?_⟩
  · rcases c2 with c2 | c2
    · exact absurd c2 hk
    · exact inT_ok c2
  · rcases c8 with c8 | c8
    · rw [c8] at hi; cases hi
    · exact c8
  · have hp : gC k pc = some (i, len) := hp
    rw [hC] at hp
    exact cLk_ok ck q.2.1 pc i len hd hp
  · show lkOk vwCl gTs gXt q.1.cls (gL k)
    rw [hL]
    exact ckE_ok h1
  · intro idx k' z q' hi hq
    have hi : gL k idx = some (1, k', z) := hi
    rw [hL] at hi
    exact ckL_ok h2 idx k' z q' hi hq
