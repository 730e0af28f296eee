/-! ===== the reference reads a law: sums, conditions ===== -/
section MLaw3
variable {X : Cx} {d : Nat} {m : Mm} {Q : Int → Mm → Prop} {Q0 : Mm → Prop} {T : Int → Int} {n tx : Int}
theorem M_term_c (hB : Bsh X.2.2.1) (hT : TOk T n) (htx : 0 ≤ tx ∧ tx < 5) {it : Int → Rr} {e D : Nat} (he : e ≤ 6) (hit : MJ T n tx e (M_atom X (D + 1)) it) (hg : PG n it) : MJ T n tx e (M_term X (D + 2)) (fun a => lpP T n it 42 47 4 5 240 (it a)) := by
  intro m Q0 hm h14 h4 h5 ha hs h
  have hn := hT.1
  have hr := hg _ ha.1 ha.2
  refine M_termw hB (hit m _ hm h14 h4 h5 ha hs (fun m1 g => ?_))
  refine M_loop (D := D + 1) (Aft := fun m Q => (-2147483648 ≤ (m 83 4) ∧ (m 83 4) < 2147483648) ∧ (m 83 4 ≠ -1 → M_term_21 X (D + 2) (-1) m Q) ∧ (m 83 4 = -1 → M_look X (D + 1) m (fun v m' => M_term_21 X (D + 2) v m' Q))) hB hT htx he hit hg (by decide) (fun m Q0 h1 h2 h3 hbad hno hyes => ?_) hm h14 h5 ha.1 hs 240 m1 (it (m 83 3)) Q0 g hr (fun _ => by omega) h
  have hsM := sgM_c hT (a := sk T n (m 83 3)) (by have := sk_ge T n (m 83 3); omega)
  refine ⟨by omega, fun z => M_term_21w hB ⟨by decide, fun e => absurd e (by decide), fun _ => ⟨fun _ => hbad z, fun e => absurd e (by decide)⟩⟩, fun z => M_look_c hB hT h1 h2 (M_term_21w hB ⟨by omega, fun z1 => M_term_33w hB ?_, fun z1 => ⟨fun z2 => hno z (by omega), fun z2 => M_term_33w hB ?_⟩⟩)⟩
  · rw [adv83]
    have zs : sgn T n (sk T n (m 83 3)) = 42 := by omega
    refine Ru0.mono (hyes z (Or.inl zs)) (fun m1 hw => ⟨by omega, fun e => absurd z1 e, fun _ => ?_⟩)
    rw [if_pos zs] at hw
    exact hw
  · rw [adv83]
    have zs : sgn T n (sk T n (m 83 3)) = 47 := by omega
    refine Ru0.mono (hyes z (Or.inr zs)) (fun m1 hw => ⟨by omega, fun _ => ?_, fun e => absurd e z1⟩)
    rw [if_neg (by omega)] at hw
    exact hw
theorem M_sumT_c (hB : Bsh X.2.2.1) (hT : TOk T n) (htx : 0 ≤ tx ∧ tx < 5) {it : Int → Rr} {e D : Nat} (he : e ≤ 6) (hit : MJ T n tx e (M_term X (D + 1)) it) (hg : PG n it) : MJ T n tx e (M_sumText X (D + 2)) (fun a => lpP T n it 43 45 2 3 240 (it a)) := by
  intro m Q0 hm h14 h4 h5 ha hs h
  have hn := hT.1
  have hr := hg _ ha.1 ha.2
  refine M_sumTextw hB (hit m _ hm h14 h4 h5 ha hs (fun m1 g => ?_))
  refine M_loop (D := D + 1) (Aft := fun m Q => (-2147483648 ≤ (m 83 4) ∧ (m 83 4) < 2147483648) ∧ (m 83 4 ≠ -1 → M_sumText_21 X (D + 2) (-1) m Q) ∧ (m 83 4 = -1 → M_look X (D + 1) m (fun v m' => M_sumText_21 X (D + 2) v m' Q))) hB hT htx he hit hg (by decide) (fun m Q0 h1 h2 h3 hbad hno hyes => ?_) hm h14 h5 ha.1 hs 240 m1 (it (m 83 3)) Q0 g hr (fun _ => by omega) h
  have hsM := sgM_c hT (a := sk T n (m 83 3)) (by have := sk_ge T n (m 83 3); omega)
  refine ⟨by omega, fun z => M_sumText_21w hB ⟨by decide, fun e => absurd e (by decide), fun _ => ⟨fun _ => hbad z, fun e => absurd e (by decide)⟩⟩, fun z => M_look_c hB hT h1 h2 (M_sumText_21w hB ⟨by omega, fun z1 => M_sumText_33w hB ?_, fun z1 => ⟨fun z2 => hno z (by omega), fun z2 => M_sumText_33w hB ?_⟩⟩)⟩
  · rw [adv83]
    have zs : sgn T n (sk T n (m 83 3)) = 43 := by omega
    refine Ru0.mono (hyes z (Or.inl zs)) (fun m1 hw => ⟨by omega, fun e => absurd z1 e, fun _ => ?_⟩)
    rw [if_pos zs] at hw
    exact hw
  · rw [adv83]
    have zs : sgn T n (sk T n (m 83 3)) = 45 := by omega
    refine Ru0.mono (hyes z (Or.inr zs)) (fun m1 hw => ⟨by omega, fun _ => ?_, fun e => absurd e z1⟩)
    rw [if_neg (by omega)] at hw
    exact hw
theorem M_sumE (hB : Bsh X.2.2.1) (hT : TOk T n) (htx : 0 ≤ tx ∧ tx < 5) : ∀ (e D : Nat), e ≤ 6 → 3 * e + 5 ≤ D → MJ T n tx e (M_sumText X D) (sumE T n e) := by
  have go : ∀ (e D : Nat) (inn : Int → Rr), e ≤ 6 → (e ≠ 0 → MJ T n tx (e - 1) (M_sumText X (D + 2)) inn) → (e ≠ 0 → PG n inn) → MJ T n tx e (M_sumText X (D + 5)) (pSum T n inn e) := by
    intro e D inn he hi hg
    exact M_sumT_c hB hT htx he (M_term_c hB hT htx he (M_atom_c hB hT htx he hi hg) (pAtom_g hg)) (pTerm_g hg)
  intro e
  induction e with
  | zero =>
    intro D he hD
    obtain ⟨D', rfl⟩ : ∃ D', D = D' + 5 := ⟨D - 5, by omega⟩
    exact go 0 D' _ he (fun h => absurd rfl h) (fun h => absurd rfl h)
  | succ e ih =>
    intro D he hD
    obtain ⟨D', rfl⟩ : ∃ D', D = D' + 5 := ⟨D - 5, by omega⟩
    exact go (e + 1) D' (sumE T n e) he (fun _ => ih (D' + 2) (by omega) (by omega)) (fun _ => sumE_g T n e)
theorem M_isSign_c (hB : Bsh X.2.2.1) {c : Int} (hc : -1 ≤ c ∧ c ≤ 255) (hy : (c = 61 ∨ c = 60 ∨ c = 62) → Q 1 m) (ho : ¬ (c = 61 ∨ c = 60 ∨ c = 62) → Q 0 m) : M_isSign X d c m Q :=
  M_isSignw hB ⟨by omega, fun z => hy (by omega), fun z => ⟨fun z2 => hy (by omega), fun z2 => ⟨fun z3 => ho (by omega), fun z3 => hy (by omega)⟩⟩⟩
theorem M_cmp_c (hB : Bsh X.2.2.1) (hT : TOk T n) (htx : 0 ≤ tx ∧ tx < 5) {e D : Nat} (he : e ≤ 6) (hsum : MJ T n tx e (M_sumText X (D + 1)) (sumE T n e)) : MJ T n tx e (M_compare X (D + 2)) (pCmp T n e) := by
  intro m Q0 hm h14 h4 h5 ha hs h
  have hn := hT.1
  have hk := sk_ge T n (m 83 3)
  have hk2 := sk_le (T := T) ha.2
  have hsM := sgM_c hT (a := sk T n (m 83 3)) (by omega)
  unfold pCmp at h
  obtain ⟨b, hb⟩ : ∃ b, b = sk T n (m 83 3) := ⟨_, rfl⟩
  rw [← hb] at h hk hk2 hsM
  refine M_comparew hB ⟨by omega, fun z => absurd h4 z, fun _ => M_look_c hB hT hm (by omega) ?_⟩
  rw [← hb]
  have e3 : (up m 83 3 b) 83 3 = b := up_same _ _ _ _
  refine M_isSign_c hB (by omega) (fun z => ⟨by decide, fun _ => ?_, fun e => absurd e (by decide)⟩) (fun z => ⟨by decide, fun e => absurd rfl e, fun _ => M_bad_c hB (by rw [up_ne (Or.inr (by decide))]; exact h4) ?_⟩)
  · have zs : sgM T n b = sgn T n b := by omega
    have hz := sgn_nz (T := T) (n := n) (a := b) (by omega)
    have hq := sumE_g T n e (b + 1) (by omega) (by omega)
    rw [if_pos (by omega)] at h
    rw [adv83]
    refine hsum.at (a := b + 1) (up_same _ _ _ _) hm.at3 (by rw [up_ne (Or.inr (by decide))]; exact h14) (by rw [up_ne (Or.inr (by decide))]; exact h4) (by rw [up_ne (Or.inr (by decide))]; exact h5) (by omega) (by rw [up_ne (Or.inl (by decide))]; omega) (fun m1 g => ?_)
    generalize sumE T n e (b + 1) = q at h hq g
    have g87 := g.2.1
    rw [up_same, up_ne (Or.inl (by decide))] at g87
    have g3 := g.2.2.1
    have g := g.u3 (m := m) (by omega)
    have gm := g.1.2.2.2.2
    have g14 : m1 83 14 = tx := by rw [g.1.2.1 14 (by decide) (by decide) (by decide)]; exact h14
    have fin : M_put X (D + 1) (cmO (sgn T n b)) 0 m1 (fun m69 => Q0 m69) := by
      refine M_put_c hB htx g14 (by omega) (fun m2 w1 w2 w3 => h m2 ⟨g.1.tr w1, ?_, ?_, fun e1 => ?_, fun e1 => ?_⟩)
      · have w87 : m2 87 tx = m1 87 tx + 1 := by rw [w3.1]; rfl
        rw [w2]; omega
      · rw [w2]; exact g3
      · obtain ⟨k1, k2, k3, k4⟩ := g.2.2.2.1 e1
        exact ⟨by rw [w2]; exact k1, by rw [w2]; exact k2, by rw [w2]; exact k3, k4.tr w3 w1⟩
      · rw [w2]; exact g.2.2.2.2 e1
    rw [zs]
    refine ⟨by omega, fun z1 => ⟨fun z2 => ?_, fun z2 => ?_⟩, fun z1 => ?_⟩
    · have ec : cmO (sgn T n b) = 8 := by unfold cmO; rw [if_neg z1, if_neg z2]
      rw [ec] at fin
      exact fin
    · have ec : cmO (sgn T n b) = 7 := by unfold cmO; rw [if_neg z1, if_pos z2]
      rw [ec] at fin
      exact fin
    · have ec : cmO (sgn T n b) = 6 := by unfold cmO; rw [if_pos z1]
      rw [ec] at fin
      exact fin
  · rw [if_neg (by omega)] at h
    rw [e3]
    exact h _ (mRes.stop hk hk2)
theorem M_unit_c (hB : Bsh X.2.2.1) (hT : TOk T n) (htx : 0 ≤ tx ∧ tx < 5) {un cn : Int → Rr} {e D : Nat} (he : e ≤ 6) (hsum : MJ T n tx e (M_sumText X (D + 2)) (sumE T n e)) (hsum1 : MJ T n tx e (M_sumText X (D + 1)) (sumE T n e)) (hu : e ≠ 0 → MJ T n tx (e - 1) (M_unit X (D + 2)) un) (hc : e ≠ 0 → MJ T n tx (e - 1) (M_condition X (D + 2)) cn) (gu : e ≠ 0 → PG n un) (gc : e ≠ 0 → PG n cn) : MJ T n tx e (M_unit X (D + 3)) (pUnit T n un cn e) := by
  intro m Q0 hm h14 h4 h5 ha hs h
  have hn := hT.1
  have hk := sk_ge T n (m 83 3)
  have hk2 := sk_le (T := T) ha.2
  have hsM := sgM_c hT (a := sk T n (m 83 3)) (by omega)
  unfold pUnit at h
  obtain ⟨b, hb⟩ : ∃ b, b = sk T n (m 83 3) := ⟨_, rfl⟩
  rw [← hb] at h hk hk2 hsM
  refine M_unitw hB (M_look_c hB hT hm (by omega) ?_)
  rw [← hb]
  have e3 : (up m 83 3 b) 83 3 = b := up_same _ _ _ _
  have e4 : (up m 83 3 b) 83 4 = -1 := by rw [up_ne (Or.inr (by decide))]; exact h4
  have e5 : (up m 83 3 b) 83 5 = 6 - e := by rw [up_ne (Or.inr (by decide))]; exact h5
  have f1 : FrR tx m (up m 83 3 b) := (FrR.rf tx m).u3 (Or.inl rfl)
  -- where it may go in, and where not
  have shut : e = 0 → mRes n tx e m (up (up (up (up m 83 3 b) 83 4 ((up m 83 3 b) 83 3)) 83 5 7) 83 3 ((up m 83 3 b) 83 3 + 1)) (false, b, []) := by
    intro ez
    rw [e3]
    refine ⟨((f1.u3 (Or.inr (Or.inl rfl))).u3 (Or.inr (Or.inr rfl))).u3 (Or.inl rfl), ?_, ?_, (fun e => by cases e), fun _ => ?_⟩
    · rw [up_ne (Or.inl (by decide)), up_ne (Or.inl (by decide)), up_ne (Or.inl (by decide)), up_ne (Or.inl (by decide)), up_same]; omega
    · rw [up_same]; omega
    · rw [up_ne (Or.inr (by decide)), up_ne (Or.inr (by decide)), up_same]
  have s4 : (up (up (up (up m 83 3 b) 83 4 ((up m 83 3 b) 83 3)) 83 5 7) 83 3 ((up m 83 3 b) 83 3 + 1)) 83 4 = b := by rw [up_ne (Or.inr (by decide)), up_ne (Or.inr (by decide)), up_same, e3]
  have f2 : FrR tx m (up (up (up m 83 3 b) 83 5 (7 - e)) 83 3 (b + 1)) := (f1.u3 (Or.inr (Or.inr rfl))).u3 (Or.inl rfl)
  have g4 : (up (up (up m 83 3 b) 83 5 (7 - e)) 83 3 (b + 1)) 83 4 = -1 := by rw [up_ne (Or.inr (by decide)), up_ne (Or.inr (by decide))]; exact e4
  have g87 : (up (up (up m 83 3 b) 83 5 (7 - e)) 83 3 (b + 1)) 87 tx = m 87 tx := by rw [up_ne (Or.inl (by decide)), up_ne (Or.inl (by decide)), up_ne (Or.inl (by decide))]
  have g3 : (up (up (up m 83 3 b) 83 5 (7 - e)) 83 3 (b + 1)) 83 3 = b + 1 := up_same _ _ _ _
  have g5 : (up (up (up m 83 3 b) 83 5 (7 - e)) 83 3 (b + 1)) 83 5 = 7 - e := by rw [up_ne (Or.inr (by decide)), up_same]
  have g14 : (up (up (up m 83 3 b) 83 5 (7 - e)) 83 3 (b + 1)) 83 14 = tx := by rw [f2.2.1 14 (by decide) (by decide) (by decide)]; exact h14
  refine ⟨by omega, fun z => ⟨fun z1 => ?_, fun z1 => M_opens_c hB he e4 e5 (fun ez => ?_) (fun ez => ?_)⟩, fun z => M_opens_c hB he e4 e5 (fun ez => ?_) (fun ez => ?_)⟩
  · rw [if_neg (by omega), if_neg (by omega)] at h
    have hq := sumE_g T n e b (by omega) hk2
    refine hsum.at (a := b) e3 hm.at3 (by rw [up_ne (Or.inr (by decide))]; exact h14) e4 e5 (by omega) (by rw [up_ne (Or.inl (by decide))]; omega) (fun m1 g => ?_)
    have g := g.u3 (m := m) (by omega)
    generalize sumE T n e b = q at h hq g
    cases hb1 : q.1 with
    | false =>
      rw [if_pos hb1] at h
      have g5' := g.2.2.2.2 hb1
      exact ⟨by omega, fun _ => h m1 g, fun zz => by omega⟩
    | true =>
      rw [if_neg (by rw [hb1]; decide)] at h
      obtain ⟨k1, k2, k3, k4⟩ := g.2.2.2.1 hb1
      have hq2 := hq.2.2 hb1
      have k87 := k4.1
      refine ⟨by omega, fun zz => absurd k1 zz, fun _ => ?_⟩
      refine (M_cmp_c hB hT htx he hsum1).at (a := q.2.1) k2 (hm.r g.1) (by rw [g.1.2.1 14 (by decide) (by decide) (by decide)]; exact h14) k1 (k3.trans h5) (by omega) (by omega) (fun m2 g2 => h m2 (g.tr hb1 g2))
  · rw [if_neg (by omega), if_pos (by omega), if_pos ez] at h
    exact ⟨by rw [s4]; omega, fun _ => h _ (shut ez), fun zz => by rw [s4] at zz; omega⟩
  · have zs : sgn T n b = 40 := by omega
    have hz := sgn_nz (T := T) (n := n) (a := b) (by omega)
    rw [if_neg (by omega), if_pos zs, if_neg ez] at h
    have hp := gc ez (b + 1) (by omega) (by omega)
    rw [e3]
    refine ⟨by omega, fun zz => absurd g4 zz, fun _ => ?_⟩
    refine (hc ez).at (a := b + 1) g3 (hm.r f2) g14 g4 (by rw [g5]; omega) (by omega) (by rw [g87]; omega) (fun m2 k => ?_)
    exact M_closes_c (m := m) hB hT (by omega) (by decide) hm (by omega) ha.1 (by rw [g5]; omega) f2 g87 k (by omega) h
  · rw [if_pos (by omega), if_pos ez] at h
    exact ⟨by rw [s4]; omega, fun _ => h _ (shut ez), fun zz => by rw [s4] at zz; omega⟩
  · have zs : sgn T n b = 33 := by omega
    have hz := sgn_nz (T := T) (n := n) (a := b) (by omega)
    rw [if_pos zs, if_neg ez] at h
    have hp := gu ez (b + 1) (by omega) (by omega)
    rw [e3]
    refine ⟨by omega, fun zz => absurd g4 zz, fun _ => ?_⟩
    refine (hu ez).at (a := b + 1) g3 (hm.r f2) g14 g4 (by rw [g5]; omega) (by omega) (by rw [g87]; omega) (fun m2 k => ?_)
    generalize un (b + 1) = q at h hp k
    obtain ⟨k1, k2, k3, k4, k5⟩ := k
    rw [g3, g87] at k2
    have km := k1.2.2.2.2
    rw [g87] at km
    have ee : ((e - 1 : Nat) : Int) = e - 1 := by omega
    rw [ee] at k3
    have k14 : m2 83 14 = tx := by rw [k1.2.1 14 (by decide) (by decide) (by decide)]; exact g14
    refine M_put_c hB htx k14 (by omega) (fun m3 w1 w2 w3 => h _ ⟨(f2.tr (k1.tr w1)).u3 (Or.inr (Or.inr rfl)), ?_, ?_, fun e1 => ⟨?_, ?_, ?_, ?_⟩, fun e1 => ?_⟩)
    · have w87 : m3 87 tx = m2 87 tx + 1 := by rw [w3.1]; rfl
      rw [up_ne (Or.inl (by decide)), up_ne (Or.inr (by decide)), w2]; omega
    · rw [up_ne (Or.inr (by decide)), w2]; omega
    · rw [up_ne (Or.inr (by decide)), w2]; exact (k4 e1).1
    · rw [up_ne (Or.inr (by decide)), w2]; exact (k4 e1).2.1
    · rw [up_same, w2, (k4 e1).2.2.1, g5, h5]; omega
    · have b4 := (k4 e1).2.2.2.base (m := m) g87
      exact (b4.tr w3 w1).en (up_off (by decide)) (up_off (by decide)) (up_off (by decide))
    · rw [up_ne (Or.inr (by decide)), w2]; exact k5 e1
/-- units with & between go on -/
theorem M_and_c (hB : Bsh X.2.2.1) (hT : TOk T n) (htx : 0 ≤ tx ∧ tx < 5) {u : Int → Rr} {e D : Nat} (he : e ≤ 6) (hit : MJ T n tx e (M_unit X (D + 1)) u) (hg : PG n u) {m0 : Mm} (hm0 : TpM T n m0) (h014 : m0 83 14 = tx) (h05 : m0 83 5 = 6 - e) (h0 : 0 ≤ m0 83 3) (h087 : 0 ≤ m0 87 tx ∧ m0 87 tx ≤ m0 83 3) {r : Rr} (hc : mRes n tx e m0 m r) (hr : PR n (m0 83 3) r) (h : ∀ m', mRes n tx e m0 m' (lpP T n u 38 38 10 10 240 r) → Q0 m') : M_goOnAnd X (D + 2) m Q0 := by
  have hn := hT.1
  have hr1 := hr.1
  refine M_loop (D := D + 1) (Aft := fun m Q => M_goOnAnd X (D + 2) m Q) hB hT htx he hit hg (by decide) (fun m Q0 h1 h2 h3 hbad hno hyes => ?_) hm0 h014 h05 h0 h087 240 m r Q0 hc hr (fun _ => by omega) h
  have hsM := sgM_c hT (a := sk T n (m 83 3)) (by have := sk_ge T n (m 83 3); omega)
  refine M_goOnAndw hB ⟨by omega, hbad, fun z => M_look_c hB hT h1 h2 ⟨by omega, fun z1 => hno z (by omega), fun z1 => ?_⟩⟩
  rw [adv83]
  have zs : sgn T n (sk T n (m 83 3)) = 38 := by omega
  have := hyes z (Or.inl zs)
  rw [if_pos zs] at this
  exact this
/-- a truth: a unit, and what goes on -/
theorem M_tru_c (hB : Bsh X.2.2.1) (hT : TOk T n) (htx : 0 ≤ tx ∧ tx < 5) {u F0 : Int → Rr} {J0 : Mm → (Mm → Prop) → Prop} {e D : Nat} (he : e ≤ 6) (h0 : MJ T n tx e J0 F0) (g0 : PG n F0) (hit : MJ T n tx e (M_unit X (D + 1)) u) (hg : PG n u) : MJ T n tx e (fun m Q => J0 m (fun m1 => M_goOnAnd X (D + 2) m1 Q)) (fun a => lpP T n u 38 38 10 10 240 (F0 a)) := by
  intro m Q0 hm h14 h4 h5 ha hs h
  exact h0 m _ hm h14 h4 h5 ha hs (fun m1 g => M_and_c hB hT htx he hit hg hm h14 h5 ha.1 hs g (g0 _ ha.1 ha.2) h)
theorem M_or_c (hB : Bsh X.2.2.1) (hT : TOk T n) (htx : 0 ≤ tx ∧ tx < 5) {u : Int → Rr} {e D : Nat} (he : e ≤ 6) (hit : MJ T n tx e (fun m Q => M_unit X (D + 1) m (fun m1 => M_goOnAnd X (D + 1) m1 Q)) u) (hg : PG n u) {m0 : Mm} (hm0 : TpM T n m0) (h014 : m0 83 14 = tx) (h05 : m0 83 5 = 6 - e) (h0 : 0 ≤ m0 83 3) (h087 : 0 ≤ m0 87 tx ∧ m0 87 tx ≤ m0 83 3) {r : Rr} (hc : mRes n tx e m0 m r) (hr : PR n (m0 83 3) r) (h : ∀ m', mRes n tx e m0 m' (lpP T n u 124 124 11 11 240 r) → Q0 m') : M_goOnOr X (D + 2) m Q0 := by
  have hn := hT.1
  have hr1 := hr.1
  refine M_loop (D := D + 1) (Aft := fun m Q => M_goOnOr X (D + 2) m Q) hB hT htx he hit hg (by decide) (fun m Q0 h1 h2 h3 hbad hno hyes => ?_) hm0 h014 h05 h0 h087 240 m r Q0 hc hr (fun _ => by omega) h
  have hsM := sgM_c hT (a := sk T n (m 83 3)) (by have := sk_ge T n (m 83 3); omega)
  refine M_goOnOrw hB ⟨by omega, hbad, fun z => M_look_c hB hT h1 h2 ⟨by omega, fun z1 => hno z (by omega), fun z1 => ?_⟩⟩
  rw [adv83]
  have zs : sgn T n (sk T n (m 83 3)) = 124 := by omega
  have := hyes z (Or.inl zs)
  rw [if_pos zs] at this
  exact this
theorem M_cnd_c (hB : Bsh X.2.2.1) (hT : TOk T n) (htx : 0 ≤ tx ∧ tx < 5) {u : Int → Rr} {e D : Nat} (he : e ≤ 6) (hu : ∀ D', D + 1 ≤ D' → MJ T n tx e (M_unit X D') u) (hg : PG n u) : MJ T n tx e (M_condition X (D + 4)) (pCnd T n u) := by
  have ht : ∀ D', D ≤ D' → MJ T n tx e (fun m Q => M_unit X (D' + 2) m (fun m1 => M_goOnAnd X (D' + 2) m1 Q)) (pTru T n u) := fun D' hD => M_tru_c hB hT htx he (hu (D' + 2) (by omega)) hg (hu (D' + 1) (by omega)) hg
  intro m Q0 hm h14 h4 h5 ha hs h
  have key := ht (D + 1) (by omega) m (fun m5 => M_goOnOr X (D + 3) m5 Q0) hm h14 h4 h5 ha hs (fun m1 g => M_or_c (D := D + 1) hB hT htx he (ht D (Nat.le_refl _)) (pTru_g hg) hm h14 h5 ha.1 hs g (pTru_g hg _ ha.1 ha.2) h)
  exact M_conditionw hB key
theorem M_untE (hB : Bsh X.2.2.1) (hT : TOk T n) (htx : 0 ≤ tx ∧ tx < 5) : ∀ (e D : Nat), e ≤ 6 → 4 * e + 8 ≤ D → MJ T n tx e (M_unit X D) (untE T n e) := by
  intro e
  induction e with
  | zero =>
    intro D he hD
    obtain ⟨D', rfl⟩ : ∃ D', D = D' + 3 := ⟨D - 3, by omega⟩
    exact M_unit_c hB hT htx he (M_sumE hB hT htx 0 (D' + 2) he (by omega)) (M_sumE hB hT htx 0 (D' + 1) he (by omega)) (fun h => absurd rfl h) (fun h => absurd rfl h) (fun h => absurd rfl h) (fun h => absurd rfl h)
  | succ e ih =>
    intro D he hD
    obtain ⟨D', rfl⟩ : ∃ D', D = D' + 5 := ⟨D - 5, by omega⟩
    have hu : ∀ D2, 4 * e + 8 ≤ D2 → MJ T n tx e (M_unit X D2) (untE T n e) := fun D2 h2 => ih D2 (by omega) h2
    exact M_unit_c (D := D' + 2) hB hT htx he (M_sumE hB hT htx (e + 1) (D' + 4) he (by omega)) (M_sumE hB hT htx (e + 1) (D' + 3) he (by omega)) (fun _ => hu _ (by omega)) (fun _ => M_cnd_c (D := D') hB hT htx (by omega) (fun D2 h2 => hu D2 (by omega)) (untE_g T n e)) (fun _ => untE_g T n e) (fun _ => pCnd_g (untE_g T n e))
end MLaw3
