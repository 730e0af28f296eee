/-! ===== what is outside and not asked for doesn't matter ===== -/
theorem sH_mono {lk : aLk} {E E' : aEx} {S S' : aSv} {oc : List String} {i : Instr} {pc : Nat} {L : aL} {St : List Value} {w : aW} {y : aX} (hE : ∀ a x, E a = some x → E' a = some x) (hS : ∀ j v, S j = some v → S' j = some v) (h : sH lk E S oc i pc L St w = some y) : sH lk E' S' oc i pc L St w = some y := by
  unfold sH at h ⊢
  split at h
  all_goals (repeat' split at h)
  all_goals first
    | (cases h; done)
    | exact h
    | (rename_i he; rw [hE _ _ he]; exact h)
    | (rename_i he; rw [hS _ _ he]; exact h)
    | (rename_i xs he v hq; rw [hE _ _ he]; dsimp only; rw [hq]; exact h)
    | (rename_i b he hv; rw [hE _ _ he]; dsimp only; rw [if_pos hv]; exact h)
    | (rename_i b he hv; rw [hE _ _ he]; dsimp only; rw [if_neg hv]; exact h)
    | (rename_i he v hq; have hz := hE _ _ he; simp_all; done)
    | (simp_all; done)
theorem sM_noH {lk lk' : aLk} {ini : Bool} {cl : List vw_C} {ty : Nat → Nat → FieldType} {oc : List String} {E : aEx} {S : aSv} {i : Instr} {pc : Nat} {L : aL} {St : List Value} {w : aW} {x : aX × aW} (h : sM lk ini cl ty oc i pc L St w = some x) : sH lk' E S oc i pc L St w = none := by
  unfold sM at h
  split at h
  all_goals first
    | rfl
    | (cases h; done)
theorem sN_noH {lk lk' : aLk} {cl : List vw_C} {dfl : Nat → Option (List Value)} {oc : List String} {E : aEx} {S : aSv} {i : Instr} {pc : Nat} {L : aL} {St : List Value} {w : aW} {x : aX × aW × Nat} (h : sN lk cl dfl oc i pc L St w = some x) : sH lk' E S oc i pc L St w = none := by
  unfold sN at h
  split at h
  all_goals first
    | rfl
    | (cases h; done)
theorem sP_noC {g : aPg} {ext : aEx} {mi : Nat} {i : Instr} {pc : Nat} {L : aL} {St : List Value} {w : aW} {x : aS} {r : aX × aW} (h : sP (pL g mi) ext i pc L St w = some r) : sC g mi i x = none := by
  unfold sP at h
  split at h
  · split at h
    next hk => unfold sC; dsimp only; rw [hk]; rfl
    next => cases h
  · split at h
    next hk => unfold sC; dsimp only; rw [hk]; rfl
    next => cases h
  · cases h
abbrev gWith (I : Nat → Option aMI) (C : Nat → Nat → Option (Instr × Nat)) (L : Nat → aLk) (T : Nat → Nat → FieldType) (D : Nat → Option (List Value)) (K : List vw_C) (O : List String) (E : aEx) (S : aSv) : aPg := (I, C, L, T, D, K, O, E, S)
section Ext
variable {I : Nat → Option aMI} {C : Nat → Nat → Option (Instr × Nat)} {Lk : Nat → aLk} {T : Nat → Nat → FieldType} {D : Nat → Option (List Value)} {K : List vw_C} {O : List String} {E E' : aEx} {S S' : aSv}
theorem s0_ext (hE : ∀ a x, E a = some x → E' a = some x) (hS : ∀ j v, S j = some v → S' j = some v) {mi : Nat} {ini : Bool} {i : Instr} {len : Nat} {x y : aS} (h : s0 (gWith I C Lk T D K O E S) mi ini i len x = some y) : s0 (gWith I C Lk T D K O E' S') mi ini i len x = some y := by
  by_cases hl : iL i = len
  · simp only [s0, if_pos hl] at h ⊢
    cases hq : sQ i x.1 x.2.1 x.2.2.1 with
    | some z => rw [hq] at h; exact h
    | none =>
      rw [hq] at h
      dsimp only at h ⊢
      cases hz : sH (Lk mi) E S O i x.1 x.2.1 x.2.2.1 x.2.2.2.1 with
      | some z =>
        rw [hz] at h
        rw [sH_mono hE hS hz]
        exact h
      | none =>
        rw [hz] at h
        dsimp only at h
        cases hm : sM (Lk mi) ini K T O i x.1 x.2.1 x.2.2.1 x.2.2.2.1 with
        | some z => rw [hm] at h; rw [sM_noH hm]; exact h
        | none =>
          rw [hm] at h
          dsimp only at h
          cases hn : sN (Lk mi) K D O i x.1 x.2.1 x.2.2.1 x.2.2.2.1 with
          | some z => rw [hn] at h; rw [sN_noH hn]; exact h
          | none => rw [hn] at h; cases h
  · simp only [s0, if_neg hl] at h ⊢
    exact h
def iInv : Instr → Bool
  | .invokestatic _ => true
  | .invokevirtual _ => true
  | .invokespecial _ => true
  | _ => false
theorem inv_s0 {g : aPg} {mi : Nat} {ini : Bool} {i : Instr} {len : Nat} {x : aS} (h : iInv i = true) : s0 g mi ini i len x = none := by
  unfold iInv at h
  split at h
  all_goals first
    | (cases h; done)
    | (unfold s0; split <;> rfl)
theorem sC_inv {g : aPg} {mi : Nat} {i : Instr} {x : aS} {r : Nat × Nat × List Value × List Value} (h : sC g mi i x = some r) : iInv i = true := by
  unfold sC at h
  split at h
  all_goals first
    | rfl
    | (cases h; done)
theorem aSrc_ext (hE : ∀ a x, E a = some x → E' a = some x) {w : aW} {a : Nat} {xs : List Int32} (h : aSrc w E a = some xs) : aSrc w E' a = some xs := by
  unfold aSrc at h ⊢
  split at h
  next hw => (try rw [hw]); exact h
  next hw =>
    (try rw [hw])
    (try dsimp only)
    split at h
    next he => rw [hE _ _ he]; exact h
    next => cases h
  next => cases h
theorem sP_ext (hE : ∀ a x, E a = some x → E' a = some x) {lk : aLk} {i : Instr} {pc : Nat} {L : aL} {St : List Value} {w : aW} {r : aX × aW} (h : sP lk E i pc L St w = some r) : sP lk E' i pc L St w = some r := by
  unfold sP at h ⊢
  split at h
  · split at h
    next hi =>
      (try rw [hi])
      (try dsimp only)
      split at h
      next hk =>
        (try rw [if_pos hk])
        split at h
        next =>
          split at h
          next xs hx => (try rw [aSrc_ext hE hx]); exact h
          next => cases h
        next => cases h
      next hk => (try rw [if_neg hk]); exact h
    next => cases h
  · exact h
  · cases h
theorem sP_inv {lk : aLk} {ext : aEx} {i : Instr} {pc : Nat} {L : aL} {St : List Value} {w : aW} {r : aX × aW} (h : sP lk ext i pc L St w = some r) : iInv i = true := by
  unfold sP at h
  split at h
  all_goals first
    | rfl
    | (cases h; done)
theorem sC_ext (hE : ∀ a x, E a = some x → E' a = some x) {mi : Nat} {i : Instr} {x : aS} {r : Nat × Nat × List Value × List Value} (h : sC (gWith I C Lk T D K O E S) mi i x = some r) : sC (gWith I C Lk T D K O E' S') mi i x = some r := by
  unfold sC at h ⊢
  split at h
  · exact h
  · repeat' split at h
    all_goals first
      | (cases h; done)
      | (rename_i hk _ _ _ hd _ _ _ hw hc; simp only [hk, hd, hw]; rw [if_pos hc]; exact h)
      | (rename_i he hc; have hz : pE (gWith I C Lk T D K O E' S') _ = some _ := hE _ _ he; simp_all; done)
      | (simp_all; done)
  · exact h
  · cases h
theorem st1_ext (hE : ∀ a x, E a = some x → E' a = some x) (hS : ∀ j v, S j = some v → S' j = some v) {R R' : aRn} (hR : eLe R R') {d mi mL : Nat} {ini : Bool} {i : Instr} {len : Nat} {x y : aS} (h : st1 (gWith I C Lk T D K O E S) R d mi mL ini i len x = some y) : st1 (gWith I C Lk T D K O E' S') R' d mi mL ini i len x = some y := by
  cases h0 : s0 (gWith I C Lk T D K O E S) mi ini i len x with
  | some z =>
    unfold st1 at h ⊢
    rw [h0] at h
    rw [s0_ext hE hS h0]
    exact h
  | none =>
    have hi : iInv i = true := by
      unfold st1 at h
      rw [h0] at h
      dsimp only at h
      repeat' split at h
      all_goals first
        | (cases h; done)
        | (rename_i hc; exact sC_inv hc)
        | (rename_i hc _; exact sC_inv hc)
        | (rename_i hc _ _ _ _; exact sC_inv hc)
        | (rename_i hc _ _ _ _ _; exact sC_inv hc)
        | (rename_i hc; exact sP_inv hc)
    have h1 : s0 (gWith I C Lk T D K O E' S') mi ini i len x = none := inv_s0 hi
    unfold st1 at h ⊢
    rw [h0] at h
    rw [h1]
    dsimp only at h ⊢
    split at h
    next hl =>
      rw [if_pos hl]
      split at h
      · cases h
      · split at h
        next hL =>
          rw [if_pos hL]
          cases hs : sC (gWith I C Lk T D K O E S) mi i x with
          | some q =>
            obtain ⟨k, mL', av, rest⟩ := q
            rw [hs] at h
            rw [sC_ext hE hs]
            dsimp only at h ⊢
            split at h
            next r w' n' he => rw [hR _ _ _ _ he]; exact h
            next => cases h
          | none =>
            rw [hs] at h
            cases hs' : sC (gWith I C Lk T D K O E' S') mi i x with
            | none =>
              dsimp only at h ⊢
              split at h
              next yy hy =>
                have hy' : sP (pL (gWith I C Lk T D K O E' S') mi) (pE (gWith I C Lk T D K O E' S')) i x.1 x.2.1 x.2.2.1 x.2.2.2.1 = some yy := sP_ext hE hy
                rw [hy']
                exact h
              next => cases h
            | some q =>
              exfalso
              dsimp only at h
              split at h
              next yy hy => rw [sP_noC (g := gWith I C Lk T D K O E' S') (mi := mi) (x := x) hy] at hs'; cases hs'
              next => cases h
        next => cases h
    next => cases h
theorem ex_ext (hE : ∀ a x, E a = some x → E' a = some x) (hS : ∀ j v, S j = some v → S' j = some v) : ∀ f : Nat, eLe (ex (gWith I C Lk T D K O E S) f) (ex (gWith I C Lk T D K O E' S') f) := by
  intro f
  induction f with
  | zero => intro d k x r h; cases h
  | succ f ih =>
    intro d mi x r h
    unfold ex at h ⊢
    split at h
    · cases h
    next hq =>
      have hq' : pI (gWith I C Lk T D K O E' S') mi = some _ := hq
      rw [hq']
      dsimp only
      split at h
      · cases h
      next hpc =>
        have hpc' : pC (gWith I C Lk T D K O E' S') mi x.1 = some _ := hpc
        rw [hpc']
        dsimp only
        split at h
        next hv => (try rw [hv]); exact h
        next hv =>
          (try rw [hv])
          (try dsimp only)
          split at h
          next y hy => rw [st1_ext hE hS ih hy]; exact ih _ _ _ _ h
          next => cases h
end Ext
/-- what lies outside, but for the script; the statics, but for the formatter -/
def gE0 (a : Nat) : Option (List Int32 ⊕ List Int32 ⊕ Nat) := if a = aK then none else gE [] a
def gS0 (j : Nat) : Option Value := if j = 6 then none else gS .null j
def g0 : aPg := gWith gI gC gL gTy gDf vwCl gOc gE0 gS0
theorem ru0 {xs : List Int32} {fv : Value} {f d k : Nat} {x : aS} {r : Option Value × aW × Nat} (h : ex g0 f d k x = some r) : Ru (gP xs fv) d k r x := by
  refine ⟨f, ex_ext (I := gI) (C := gC) (Lk := gL) (T := gTy) (D := gDf) (K := vwCl) (O := gOc) (E := gE0) (S := gS0) (E' := gE xs) (S' := gS fv) (fun a y hy => ?_) (fun j v hv => ?_) f _ _ _ _ h⟩
  · unfold gE0 at hy
    split at hy
    · cases hy
    next hne =>
      unfold gE at hy ⊢
      split at hy
      · cases hy
      next hlt =>
        have hne' : ¬ a = 1000000 := hne
        rw [if_neg hlt]
        rw [if_neg hne'] at hy ⊢
        exact hy
  · unfold gS0 at hv
    split at hv
    · cases hv
    next hne =>
      unfold gS at hv ⊢
      split at hv
      all_goals first
        | exact hv
        | (exact absurd rfl hne)
        | (cases hv; done)
