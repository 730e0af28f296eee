/-! ===== who, best ===== -/
abbrev soA (A : Ab) (x : Int) : Int → Bool := so2 (kNm (abK A)) (soW (abK A) (abB A) (abQ A) (abP A) x (abN A) (abNr A) (abNc A) (abNi A))
abbrev fitL (A : Ab) (x : Int) : List Int := reL (soA A x) 10 0
abbrev tkA (A : Ab) (x : Int) : Int → Int → Int := tkW (abK A) (abB A) (abQ A) (abP A) x
abbrev mstA (A : Ab) (x r : Int) : Int := mxF (fun k => cntL (tkA A x) r k (fitL A x)) 9 0 0
section Who2
variable {X : Cx} {d : Nat} {m : Mm} {A : Ab} {t : Int} {Q : Int → Mm → Prop} {x : Int}
theorem nok (hA : AOk A t) (hp : 0 < kNm (abK A)) : (0 ≤ abN A ∧ abN A ≤ 10) ∧ ∀ j, 0 ≤ j → j < abN A → (1 ≤ abNr A j ∧ abNr A j ≤ 20) ∧ (0 ≤ abNc A j ∧ abNc A j < 100) ∧ (abNi A j = 0 ∨ abNi A j = 1) := by
  obtain ⟨-, -, -, -, a4, -, -, ⟨a7, a8⟩, -⟩ := hA
  have hk0 := (a4 hp).1.2.2.1
  refine ⟨a7, fun j h1 h2 => ?_⟩
  obtain ⟨b1, b2, b3⟩ := a8 j h1 h2
  exact ⟨b1, by omega, b3⟩
theorem fit_len (A : Ab) (x : Int) : (fitL A x).length ≤ 10 := by
  have g : ∀ (so : Int → Bool) (f : Nat) (l : Int), (reL so f l).length ≤ f := by
    intro so f
    induction f with
    | zero => intro l; exact Nat.le_refl _
    | succ f ih =>
      intro l
      have := ih (l + 1)
      show ((if so l = true then [l] else []) ++ reL so f (l + 1)).length ≤ f + 1
      rw [List.length_append]
      split
      · rw [List.length_singleton]; omega
      · rw [List.length_nil]; omega
  exact g _ 10 0
theorem hsoA (hB : Bsh X.2.2.1) (hA : AOk A t) (hp : 0 < kNm (abK A)) (hM : MW m A) (hT : T110 (abK A) (abB A) (abQ A) (abP A) x 10 1 (m 110)) : ∀ (w : Int) (Q : Int → Mm → Prop), 0 ≤ w → w ≤ 9 → (soA A x w = true → Q 1 m) → (soA A x w = false → Q 0 m) → M_isSo X (d + 3) w m Q := by
  intro w Q h1 h2 hy hn
  obtain ⟨n1, n2⟩ := nok hA hp
  have hk := hA.2.2.2.2.1 hp
  exact M_isSo_c hB ⟨h1, h2⟩ hk.1 hk.2.1 hM.n n1 hM.2.2.2.2.2.2.2.2.1 hM.2.2.2.2.2.2.2.2.2 n2 hT hy hn
theorem M_isMore_c (hB : Bsh X.2.2.1) (hn : 0 ≤ m 83 28 ∧ m 83 28 ≤ 6) (hx : R3 x) (hy : 0 < m 83 28 → 1 ≤ x → x ≤ 5 → Q 1 m) (ho : (m 83 28 = 0 ∨ x < 1 ∨ 5 < x) → Q 0 m) : M_isMore X (d + 1) x m Q := M_isMorew hB ⟨by omega, fun z => ho (by omega), fun z => M_in_c hx (by decide) (by decide) (fun z1 z2 => q1e (hy z z1 z2)) (fun z1 => q0e (ho (by omega)))⟩
theorem M_who_c (hH : HLaw) (hB : Bsh X.2.2.1) (hA : AOk A t) (hM : MW m A) (hp : 0 < kNm (abK A)) (hx : 1 ≤ x ∧ x ≤ 5) {y : Int} (hy : R3 y) (hy1 : -1 ≤ y) (h : ∀ m', SmM m m' → T110 (abK A) (abB A) (abQ A) (abP A) x 10 1 (m' 110) → Q (pkF (fitL A x) 0 y) m') : M_who X (d + 9) x y m Q := by
  have hn := hA.2.2.1
  have e28 := hM.n
  have mi := hM.mi hH hB hA
  obtain ⟨v1, v2, v3⟩ := mi.2.2.2.2 hp
  refine M_whow hB (M_isMore_c hB (by omega) (by unfold R3; omega) (fun z1 z2 z3 => q1e ⟨hy, fun _ => M_lay_c hB v1 v2 hx mi.2.1 (fun m1 g1 g2 g3 => ?_), fun z => by omega⟩) (fun z => by omega))
  rw [hM.q] at g3
  exact M_who_25_c hB (hsoA hB hA hp (hM.smm g1) g3) hy 10 0 0 (by decide) (by decide) (by decide) (h m1 g1 g3)
theorem op_who (hH : HLaw) (hB : Bsh X.2.2.1) (hI : InvA X m A t) {y : Int} (hx : R3 x) (hy : R3 y) : Bth X A t (V_who X (d + 20) x y) (M_who X (d + 20) x y) m := by
  have hn := hI.n
  obtain ⟨c, hc⟩ := hI.1.ci hH hB hI.2.2
  have h4 := hc.2.2.2.1
  refine bth_of (F := if kNm (abK A) = 0 ∨ x < 1 ∨ 5 < x then -1 else pickL (fitL A x) y) hI (fun Q h => ?_) (fun m1 Q h1 h => ?_)
  · refine V_whow hB (V_hasCanton_c hB hc.1 hc.2.1 (by omega) (fun z0 => q1e ⟨hx, fun z => ?_, fun z1 => ⟨fun z2 => ?_, fun z => ?_⟩⟩) (fun z => q0e ?_))
    · have h := h m hI.1.up (fun _ _ => rfl)
      rw [if_pos (by omega)] at h
      exact h
    · obtain ⟨v1, v2, v3, v4, v5⟩ := hc.2.2.2.2.2 (by omega)
      obtain ⟨n1, n2⟩ := nok hI.2.2 (by omega)
      have hnt := hI.1.2.2.2.2.2.2.2.2
      refine U_list_c (p := abQ A) hB v2 ⟨z1, z2⟩ n1 n2 v1 v5 hnt.1 hnt.2 (fun m1 L g1 g2 g3 g4 => ?_)
      rw [cl_re _ (by omega)] at g1
      have hl := clL_len (soW (abK A) (abB A) (abQ A) (abP A) x (abN A) (abNr A) (abNc A) (abNi A)) (kNm (abK A)) (kNm (abK A) + 1).toNat 0
      rw [cl_re _ (by omega), ← g1] at hl
      refine F_pick_c hB (Or.inr rfl) g2 (by show L.length ≤ 7; omega) hy ?_
      have h := h m1 (hI.1.smc g4).up g4.hi
      rw [if_neg (by omega)] at h
      rw [g1]
      exact h
    · have h := h m hI.1.up (fun _ _ => rfl)
      rw [if_pos (by omega)] at h
      exact h
    · have h := h m hI.1.up (fun _ _ => rfl)
      rw [if_pos (by omega)] at h
      exact h
  · have e28 := h1.n
    by_cases c0 : kNm (abK A) = 0 ∨ x < 1 ∨ 5 < x
    · have h := h m1 h1 (fun _ _ => rfl)
      rw [if_pos c0] at h
      exact M_whow hB (M_isMore_c hB (by omega) hx (fun z1 z2 z3 => by omega) (fun z => q0e h))
    · rw [if_neg c0] at h
      by_cases c1 : y < -1
      · have h := h m1 h1 (fun _ _ => rfl)
        rw [pickL_low c1] at h
        exact M_whow hB (M_isMore_c hB (by omega) hx (fun z1 z2 z3 => q1e ⟨hy, fun z => by omega, fun z => h⟩) (fun z => by omega))
      · refine M_who_c hH hB hI.2.2 h1 (by omega) (by omega) hy (by omega) (fun m2 g1 g2 => ?_)
        rw [pkF_0 (by omega)]
        exact h m2 (h1.smm g1) g1.lo
theorem M_best_31_c (hB : Bsh X.2.2.1) (hA : AOk A t) (hp : 0 < kNm (abK A)) (hM : MW m A) (hT : T110 (abK A) (abB A) (abQ A) (abP A) x 10 1 (m 110)) (hmt : ∀ (r : Int) (Q : Int → Mm → Prop), 1 ≤ r → r ≤ kR (abK A) 3 → Q (mstA A x r) m → M_mostTell X (d + 4) r m Q) : ∀ (f : Nat) (l2 l3 l4 : Int) (o5 : Option Int), 1 ≤ l4 → kR (abK A) 3 + 1 - l4 = f → (0 ≤ l3 ∧ l3 ≤ 100) → Q (bsF (mstA A x) f l2 l3 l4) m → M_best_31 X (d + 5) x l2 l3 l4 o5 m Q := by
  have hk3 := (hA.2.2.2.2.1 hp).1.2.2.2.2.2.1
  have e98 : m 98 3 = kR (abK A) 3 := by rw [← hM.2.1]; rfl
  intro f
  induction f with
  | zero =>
    intro l2 l3 l4 o5 hl hf h3 h
    exact M_best_31w hB ⟨by omega, by omega, fun _ => h, fun z => by omega⟩
  | succ f ih =>
    intro l2 l3 l4 o5 hl hf h3 h
    have hlen := fit_len A x
    have hmx : 0 ≤ mstA A x l4 ∧ mstA A x l4 ≤ (fitL A x).length := mxF_le (cnt := fun k => cntL (tkA A x) l4 k (fitL A x)) (b := (fitL A x).length) (fun k => (cntL_r _ l4 k _).2) 9 0 0 (by omega)
    have h : Q (if mstA A x l4 < l3 then bsF (mstA A x) f l4 (mstA A x l4) (l4 + 1) else bsF (mstA A x) f l2 l3 (l4 + 1)) m := h
    refine M_best_31w hB ⟨by omega, by omega, fun z => by omega, fun _ => hmt l4 _ hl (by omega) ⟨by omega, by omega, fun z => ih _ _ _ _ (by omega) (by omega) h3 ?_, fun z => ih _ _ _ _ (by omega) (by omega) (by omega) ?_⟩⟩
    · rw [if_neg (by omega)] at h; exact h
    · rw [if_pos z] at h; exact h
theorem op_best (hH : HLaw) (hB : Bsh X.2.2.1) (hI : InvA X m A t) (hx : R3 x) : Bth X A t (V_best X (d + 20) x) (M_best X (d + 20) x) m := by
  have hn := hI.n
  have hlen := fit_len A x
  obtain ⟨c, hc⟩ := hI.1.ci hH hB hI.2.2
  have h4 := hc.2.2.2.1
  refine bth_of (F := if kNm (abK A) = 0 ∨ x < 1 ∨ 5 < x then -1 else if (fitL A x).length = 0 then -1 else bsF (mstA A x) (kR (abK A) 3).toNat (-1) ((fitL A x).length + 1) 1) hI (fun Q h => ?_) (fun m1 Q h1 h => ?_)
  · refine V_bestw hB (V_hasCanton_c hB hc.1 hc.2.1 (by omega) (fun z0 => q1e ⟨hx, fun z => ?_, fun z1 => ⟨fun z2 => ?_, fun z => ?_⟩⟩) (fun z => q0e ?_))
    · have h := h m hI.1.up (fun _ _ => rfl)
      rw [if_pos (by omega)] at h
      exact h
    · obtain ⟨v1, v2, v3, v4, v5⟩ := hc.2.2.2.2.2 (by omega)
      obtain ⟨n1, n2⟩ := nok hI.2.2 (by omega)
      have hnt := hI.1.2.2.2.2.2.2.2.2
      have hk3 := v1.2.2.2.2.1.2.2.2.2.2.1
      refine U_list_c (p := abQ A) hB v2 ⟨z1, z2⟩ n1 n2 v1 v5 hnt.1 hnt.2 (fun m1 L g1 g2 g3 g4 => ?_)
      rw [cl_re _ (by omega)] at g1
      have eL : L = fitL A x := g1
      have h := h m1 (hI.1.smc g4).up g4.hi
      rw [if_neg (by omega), ← eL] at h
      have hv1 := v1.smc g4
      have e3 : m1 (c + 1) 3 = kR (abK A) 3 := hv1.2.2.1.2.2.2.1 3 (by omega) (by omega)
      rw [← eL] at hlen
      have e74 : m1 74 1 = L.length := g2.1
      refine U_rowToLookAtw hB ?_
      rw [e74]
      by_cases z3 : L.length = 0
      · rw [if_pos z3] at h
        exact U_rowToLookAt_14w hB ⟨c, hv1.1, hv1.2.1, K_lastRow_c hB hv1.1 ⟨by omega, by omega, fun _ => h, fun _ => ⟨by omega, fun _ => h, fun z => by omega⟩⟩⟩
      · rw [if_neg z3] at h
        refine U_row_14_c hB hv1 (L := L) (tk := tkA A x) (by omega) e74 g3 (kR (abK A) 3).toNat _ _ _ _ _ (by decide) (by omega) (by omega) ?_
        have em : (fun r => mxF (fun k => cntL (tkA A x) r k L) 9 0 0) = mstA A x := by rw [eL]
        rw [em]
        exact h
    · have h := h m hI.1.up (fun _ _ => rfl)
      rw [if_pos (by omega)] at h
      exact h
    · have h := h m hI.1.up (fun _ _ => rfl)
      rw [if_pos (by omega)] at h
      exact h
  · have e28 := h1.n
    by_cases c0 : kNm (abK A) = 0 ∨ x < 1 ∨ 5 < x
    · have h := h m1 h1 (fun _ _ => rfl)
      rw [if_pos c0] at h
      exact M_bestw hB (M_isMore_c hB (by omega) hx (fun z1 z2 z3 => by omega) (fun z => q0e h))
    · rw [if_neg c0] at h
      have hp : 0 < kNm (abK A) := by omega
      have hK := hI.k hp
      have hBk := (hI.2.2.2.2.2.2.1 hp).2.1
      have hk3 := hK.2.2.2.2.2.1
      have hk0 := hK.2.2.1
      refine M_bestw hB (M_isMore_c hB (by omega) hx (fun z1 z2 z3 => q1e (M_who_c hH hB hI.2.2 h1 hp (by omega) (by decide) (by decide) (fun m2 g1 g2 => ?_))) (fun z => by omega))
      have hM2 := h1.smm g1
      have h := h m2 hM2 g1.lo
      have so := fun d => hsoA (d := d) hB hI.2.2 hp hM2 g2
      by_cases z3 : (fitL A x).length = 0
      · rw [if_pos z3] at h
        have e : fitL A x = [] := List.eq_nil_of_length_eq_zero z3
        rw [e]
        exact ⟨by decide, fun e => absurd rfl e, fun _ => h⟩
      · rw [if_neg z3] at h
        have hge := reL_ge (soA A x) 10 0
        have hmt : ∀ (d : Nat) (r : Int) (Q : Int → Mm → Prop), 1 ≤ r → r ≤ kR (abK A) 3 → Q (mstA A x r) m2 → M_mostTell X (d + 4) r m2 Q := by
          intro d r Q r1 r2 hq
          have e98 : m2 98 0 = kR (abK A) 0 := by rw [← hM2.2.1]; rfl
          refine M_mostTellw hB (M_mostTell_c hB (so d) (tk := tkA A x) e98 hk0 (by omega) (fun w w1 w2 w3 => ?_) (kR (abK A) 0).toNat 0 0 _ _ (by decide) (by omega) (by decide) ?_)
          · have hwh : whO (kNm (abK A)) w := by
              unfold soA so2 at w3
              exact whB_e.mp (by revert w3; cases whB (kNm (abK A)) w <;> simp)
            have e := g2 w r hwh r1 (by omega) (by omega)
            rw [show min r (kR (abK A) 3) = r by omega] at e
            have hr := tkW_r (p := abQ A) (pf := abP A) (x := x) (w := w) hK hBk (r := r) (by omega)
            exact ⟨e, hr.1, by show tkW _ _ _ _ _ _ _ < 9; omega⟩
          · have e := mxF_ext (cnt := fun k => cntL (tkA A x) r k (fitL A x)) (kR (abK A) 0).toNat (9 - (kR (abK A) 0).toNat) 0 0 (by decide) (fun k hk => cntL_0 (fun w hw => by
              have hr := tkW_r (p := abQ A) (pf := abP A) (x := x) (w := w) hK hBk (r := r) (by omega)
              intro e
              have e2 : tkW (abK A) (abB A) (abQ A) (abP A) x w r = k := e
              omega))
            rw [show (kR (abK A) 0).toNat + (9 - (kR (abK A) 0).toNat) = 9 by omega] at e
            rw [← e]
            exact hq
        obtain ⟨f, hf⟩ : ∃ f : Nat, (kR (abK A) 3).toNat = f + 1 := ⟨(kR (abK A) 3).toNat - 1, by omega⟩
        have hmx := mxF_le (cnt := fun k => cntL (tkA A x) 1 k (fitL A x)) (b := (fitL A x).length) (fun k => (cntL_r _ 1 k _).2) 9 0 0 (by omega)
        rw [hf] at h
        have h : Q (if mstA A x 1 < (fitL A x).length + 1 then bsF (mstA A x) f 1 (mstA A x 1) (1 + 1) else bsF (mstA A x) f (-1) ((fitL A x).length + 1) (1 + 1)) m2 := h
        rw [if_pos (by show mxF _ 9 0 0 < _; omega)] at h
        have hpk : 0 ≤ pkF (fitL A x) 0 0 ∧ pkF (fitL A x) 0 0 ≤ 9 := by
          match hL : fitL A x, z3 with
          | a :: L, _ =>
            have := hge a (by show a ∈ fitL A x; rw [hL]; simp)
            show 0 ≤ (if (0 : Int) = 0 then a else _) ∧ (if (0 : Int) = 0 then a else _) ≤ 9
            rw [if_pos rfl]
            omega
        refine ⟨by omega, fun _ => hmt _ 1 _ (by decide) (by omega) ?_, fun e => by omega⟩
        exact M_best_31_c hB hI.2.2 hp hM2 g2 (hmt _) f _ _ _ _ (by decide) (by omega) (by show 0 ≤ mxF _ 9 0 0 ∧ mxF _ 9 0 0 ≤ 100; omega) h
end Who2
