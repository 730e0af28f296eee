/-! ===== the reference reads a law: atoms, terms, sums, conditions ===== -/
section MLaw2
variable {X : Cx} {d : Nat} {m : Mm} {Q : Int → Mm → Prop} {Q0 : Mm → Prop} {T : Int → Int} {n tx : Int}
/-- what stands within is read; then a sign -/
theorem M_closes_c (hB : Bsh X.2.2.1) (hT : TOk T n) {c : Int} {r : Rr} {m1 m2 : Mm} {e : Nat} (he : 1 ≤ e ∧ e ≤ 6) (hc : 1 ≤ c ∧ c ≤ 255) (hm : TpM T n m) (h3 : m 83 3 + 1 ≤ m1 83 3) (h0 : 0 ≤ m 83 3) (h5 : m1 83 5 = m 83 5 + 1) (hf : FrR tx m m1) (h87 : m1 87 tx = m 87 tx) (h2 : mRes n tx (e - 1) m1 m2 r) (hr : 0 ≤ r.2.1 ∧ r.2.1 ≤ n) (h : ∀ m', mRes n tx e m m' (thn T n c r) → Q0 m') : M_closes X (d + 2) c m2 Q0 := by
  have hn := hT.1
  obtain ⟨a1, a2, a3, a4, a5⟩ := h2
  have ee : ((e - 1 : Nat) : Int) = e - 1 := by omega
  rw [ee] at a3
  have hm2 : TpM T n m2 := hm.r (hf.tr a1)
  have hup : ∀ (m3 : Mm) (v5 : Int), FrR tx m m3 → FrR tx m (up (up m3 83 3 (m3 83 3 + 1)) 83 5 v5) := fun m3 v5 g => (g.u3 (Or.inl rfl)).u3 (Or.inr (Or.inr rfl))
  unfold thn at h
  cases hb : r.1 with
  | false =>
    rw [if_pos hb] at h
    have a5 := a5 hb
    refine M_closesw hB ⟨by omega, fun _ => M_closes_20w hB (h _ ⟨hup m2 _ (hf.tr a1), ?_, ?_, (fun e => by rw [hb] at e; cases e), fun _ => ?_⟩), fun z => by omega⟩
    · rw [up_ne (Or.inl (by decide)), up_ne (Or.inl (by decide)), up_ne (Or.inr (by decide)), up_same]; omega
    · rw [up_ne (Or.inr (by decide)), up_same]; omega
    · rw [up_ne (Or.inr (by decide)), up_ne (Or.inr (by decide))]; exact a5
  | true =>
    rw [if_neg (by rw [hb]; decide)] at h
    obtain ⟨b1, b2, b3, b4⟩ := a4 hb
    have hk := sk_ge T n r.2.1
    have hk2 := sk_le (T := T) hr.2
    have hs := sgM_c hT (a := sk T n r.2.1) (by omega)
    refine M_closesw hB ⟨by omega, fun z => absurd b1 z, fun _ => M_look_c hB hT hm2 (by omega) ?_⟩
    rw [b2]
    refine ⟨by omega, by omega, fun z => M_closes_20w hB ?_, fun z => M_bad_c hB (by rw [up_ne (Or.inr (by decide))]; exact b1) (M_closes_20w hB ?_)⟩
    · rw [if_pos (by omega)] at h
      refine h _ ⟨hup _ _ ((hf.tr a1).u3 (Or.inl rfl)), ?_, ?_, fun _ => ⟨?_, ?_, ?_, ?_⟩, fun e => by cases e⟩
      · rw [up_ne (Or.inl (by decide)), up_ne (Or.inl (by decide)), up_ne (Or.inl (by decide)), up_ne (Or.inr (by decide)), up_same, up_same]; omega
      · rw [up_ne (Or.inr (by decide)), up_same, up_same]; omega
      · rw [up_ne (Or.inr (by decide)), up_ne (Or.inr (by decide)), up_ne (Or.inr (by decide))]; exact b1
      · rw [up_ne (Or.inr (by decide)), up_same, up_same]
      · rw [up_same, up_ne (Or.inr (by decide))]; omega
      · have b4' := b4.base (m := m) h87
        exact b4'.en (by rw [up_off (by decide), up_off (by decide), up_off (by decide)]) (by rw [up_off (by decide), up_off (by decide), up_off (by decide)]) (by rw [up_off (by decide), up_off (by decide), up_off (by decide)])
    · rw [if_neg (by omega)] at h
      rw [up_same]
      refine h _ ⟨hup _ _ (((hf.tr a1).u3 (Or.inl rfl)).u3 (Or.inr (Or.inl rfl))), ?_, ?_, (fun e => by cases e), fun _ => ?_⟩
      · rw [up_ne (Or.inl (by decide)), up_ne (Or.inl (by decide)), up_ne (Or.inl (by decide)), up_ne (Or.inl (by decide)), up_ne (Or.inr (by decide)), up_same, up_ne (Or.inr (by decide)), up_same]; omega
      · rw [up_ne (Or.inr (by decide)), up_same, up_ne (Or.inr (by decide)), up_same]; omega
      · rw [up_ne (Or.inr (by decide)), up_ne (Or.inr (by decide)), up_same]
/-- ( [ or !: it goes in, if it may -/
theorem M_opens_c (hB : Bsh X.2.2.1) {e : Nat} (he : e ≤ 6) (h4 : m 83 4 = -1) (h5 : m 83 5 = 6 - e) (h0 : e = 0 → Q0 (up (up (up m 83 4 (m 83 3)) 83 5 7) 83 3 (m 83 3 + 1))) (h1 : e ≠ 0 → Q0 (up (up m 83 5 (7 - e)) 83 3 (m 83 3 + 1))) : M_opens X (d + 1) m Q0 := by
  refine M_opensw hB ⟨by omega, fun z => M_opens_13w hB ?_, fun z => M_bad_c hB h4 (M_opens_13w hB ?_)⟩
  · rw [h5, show (6 : Int) - e + 1 = 7 - e by omega]
    exact h1 (by omega)
  · have h0 := h0 (by omega)
    rw [up_ne (Or.inr (by decide)), up_ne (Or.inr (by decide)), h5]
    rw [show (6 : Int) - e + 1 = 7 by omega]
    exact h0
theorem M_atom_c (hB : Bsh X.2.2.1) (hT : TOk T n) (htx : 0 ≤ tx ∧ tx < 5) {inn : Int → Rr} {e D : Nat} (he : e ≤ 6) (hi : e ≠ 0 → MJ T n tx (e - 1) (M_sumText X (D + 2)) inn) (hg : e ≠ 0 → PG n inn) : MJ T n tx e (M_atom X (D + 3)) (pAtom T n inn e) := by
  intro m Q0 hm h14 h4 h5 ha hs h
  have hn := hT.1
  have hk := sk_ge T n (m 83 3)
  have hk2 := sk_le (T := T) ha.2
  have hsM := sgM_c hT (a := sk T n (m 83 3)) (by omega)
  unfold pAtom at h
  obtain ⟨b, hb⟩ : ∃ b, b = sk T n (m 83 3) := ⟨_, rfl⟩
  rw [← hb] at h hk hk2 hsM
  refine M_atomw hB (M_look_c hB hT hm (by omega) ?_)
  rw [← hb]
  have e3 : (up m 83 3 b) 83 3 = b := up_same _ _ _ _
  have e4 : (up m 83 3 b) 83 4 = -1 := by rw [up_ne (Or.inr (by decide))]; exact h4
  have e5 : (up m 83 3 b) 83 5 = 6 - e := by rw [up_ne (Or.inr (by decide))]; exact h5
  have e14 : (up m 83 3 b) 83 14 = tx := by rw [up_ne (Or.inr (by decide))]; exact h14
  have f1 : FrR tx m (up m 83 3 b) := (FrR.rf tx m).u3 (Or.inl rfl)
  refine M_dig_c hB (by omega) (fun hd => ⟨by decide, fun e => absurd e (by decide), fun _ => M_plainNumberw hB ?_⟩) (fun hd => ⟨by decide, fun _ => M_letter_c hB (by omega) ?_, fun e => absurd rfl e⟩)
  · rw [if_neg (by omega), if_pos (by omega)] at h
    have hr := nmL_r (T := T) (n := n) 4 b 0 hk2
    have hz := sgn_nz (T := T) (n := n) (a := b) (by omega)
    have hr1 : b + 1 ≤ (nmL T n 4 b 0).1 := by
      have e1 : nmL T n 4 b 0 = nmL T n 3 (b + 1) (10 * 0 + sgn T n b - 48) := by
        show (if 48 ≤ sgn T n b ∧ sgn T n b ≤ 57 then _ else _) = _
        rw [if_pos (by omega)]
      rw [e1]
      exact (nmL_r (T := T) (n := n) 3 (b + 1) _ (by omega)).1
    unfold pNum at h
    refine M_num_4 hB hT 4 0 0 _ (by decide) (by decide) hm.at3 e4 (by rw [e3]; omega) ?_ ?_
    · rw [e3, up_up]
      generalize nmL T n 4 b 0 = p at h hr hr1 ⊢
      intro hd2
      refine M_put_c hB htx (by rw [up_ne (Or.inr (by decide))]; exact h14) (by rw [up_ne (Or.inl (by decide))]; omega) (fun m1 g1 g2 g3 => h m1 ⟨((FrR.rf tx m).u3 (Or.inl rfl)).tr g1, ?_, ?_, fun _ => ⟨?_, ?_, ?_, ?_⟩, fun e => ?_⟩)
      · have := g3.1
        rw [up_ne (Or.inl (by decide))] at this
        rw [g2, up_same, this]
        simp
        omega
      · rw [g2, up_same]; omega
      · rw [g2, up_ne (Or.inr (by decide))]; exact h4
      · rw [g2, up_same]
      · rw [g2, up_ne (Or.inr (by decide))]
      · exact g3.base (up_ne (Or.inl (by decide)))
      · have : decide (¬ (48 ≤ sgn T n p.1 ∧ sgn T n p.1 ≤ 57)) = false := e
        rw [decide_eq_true hd2] at this
        cases this
    · rw [e3, up_up]
      generalize nmL T n 4 b 0 = p at h hr hr1 ⊢
      intro hd2
      refine M_put_c hB htx (by rw [up_ne (Or.inr (by decide)), up_ne (Or.inr (by decide))]; exact h14) (by rw [up_ne (Or.inl (by decide)), up_ne (Or.inl (by decide))]; omega) (fun m1 g1 g2 g3 => h m1 ⟨(((FrR.rf tx m).u3 (Or.inl rfl)).u3 (Or.inr (Or.inl rfl))).tr g1, ?_, ?_, fun e => ?_, fun _ => ?_⟩)
      · have := g3.1
        rw [up_ne (Or.inl (by decide)), up_ne (Or.inl (by decide))] at this
        rw [g2, up_ne (Or.inr (by decide)), up_same, this]
        simp
        omega
      · rw [g2, up_ne (Or.inr (by decide)), up_same]; omega
      · have : decide (¬ (48 ≤ sgn T n p.1 ∧ sgn T n p.1 ≤ 57)) = true := e
        rw [decide_eq_false (fun q => q hd2)] at this
        cases this
      · rw [g2, up_same]
  · have hl := ltO_r (sgM T n b)
    refine ⟨by omega, fun zl => ⟨by omega, fun z => ?_, fun z => ?_⟩, fun zl => ?_⟩
    · have hln : ltO (sgn T n b) = -1 := by
        rcases hsM with q | q
        · rw [q.2]; rfl
        · rw [← q.1]; exact zl
      rw [if_neg (by omega), if_neg (by omega), if_pos hln] at h
      refine M_bad_c hB e4 ?_
      rw [e3]
      exact h _ (mRes.stop hk hk2)
    · have zs : sgn T n b = 91 := by omega
      have hz := sgn_nz (T := T) (n := n) (a := b) (by omega)
      rw [if_pos zs] at h
      refine M_opens_c hB he e4 e5 (fun ez => ?_) (fun ez => ?_)
      · rw [if_pos ez] at h
        rw [e3]
        refine ⟨?_, fun _ => h _ ⟨(((f1.u3 (Or.inr (Or.inl rfl))).u3 (Or.inr (Or.inr rfl))).u3 (Or.inl rfl)), ?_, ?_, (fun e => by cases e), fun _ => ?_⟩, fun zz => ?_⟩
        · rw [up_ne (Or.inr (by decide)), up_ne (Or.inr (by decide)), up_same]; omega
        · rw [up_ne (Or.inl (by decide)), up_ne (Or.inl (by decide)), up_ne (Or.inl (by decide)), up_ne (Or.inl (by decide)), up_same]; omega
        · rw [up_same]; omega
        · rw [up_ne (Or.inr (by decide)), up_ne (Or.inr (by decide)), up_same]
        · rw [up_ne (Or.inr (by decide)), up_ne (Or.inr (by decide)), up_same] at zz; omega
      · rw [if_neg ez] at h
        have hp := hg ez (b + 1) (by omega) (by omega)
        rw [e3]
        have f2 : FrR tx m (up (up (up m 83 3 b) 83 5 (7 - e)) 83 3 (b + 1)) := (f1.u3 (Or.inr (Or.inr rfl))).u3 (Or.inl rfl)
        have g4 : (up (up (up m 83 3 b) 83 5 (7 - e)) 83 3 (b + 1)) 83 4 = -1 := by rw [up_ne (Or.inr (by decide)), up_ne (Or.inr (by decide))]; exact e4
        have g87 : (up (up (up m 83 3 b) 83 5 (7 - e)) 83 3 (b + 1)) 87 tx = m 87 tx := by rw [up_ne (Or.inl (by decide)), up_ne (Or.inl (by decide)), up_ne (Or.inl (by decide))]
        have g3 : (up (up (up m 83 3 b) 83 5 (7 - e)) 83 3 (b + 1)) 83 3 = b + 1 := up_same _ _ _ _
        have g5 : (up (up (up m 83 3 b) 83 5 (7 - e)) 83 3 (b + 1)) 83 5 = 7 - e := by rw [up_ne (Or.inr (by decide)), up_same]
        refine ⟨by omega, fun zz => absurd g4 zz, fun _ => ?_⟩
        refine (hi ez).at (a := b + 1) g3 (hm.r f2) (by rw [f2.2.1 14 (by decide) (by decide) (by decide)]; exact h14) g4 (by rw [g5]; omega) (by omega) (by rw [g87]; omega) (fun m2 k => ?_)
        exact M_closes_c (m := m) hB hT (by omega) (by decide) hm (by omega) ha.1 (by rw [g5]; omega) f2 g87 k (by omega) h
    · have e1 : sgM T n b = sgn T n b := by
        rcases hsM with q | q
        · rw [q.1] at zl; exact absurd rfl zl
        · exact q.1
      have hz := sgn_nz (T := T) (n := n) (a := b) (by omega)
      have nine : ¬ sgn T n b = 91 := fun q => zl (by rw [e1, q]; rfl)
      rw [if_neg nine, if_neg (by omega), if_neg (by rw [← e1]; exact zl)] at h
      rw [adv83]
      refine M_letter_c hB (by omega) (M_put_c hB htx (by rw [up_ne (Or.inr (by decide))]; exact h14) (by rw [up_ne (Or.inl (by decide))]; omega) (fun m1 g1 g2 g3 => h m1 ⟨((FrR.rf tx m).u3 (Or.inl rfl)).tr g1, ?_, ?_, fun _ => ⟨?_, ?_, ?_, ?_⟩, fun e => by cases e⟩))
      · have := g3.1
        rw [up_ne (Or.inl (by decide))] at this
        rw [g2, up_same, this]
        simp
        omega
      · rw [g2, up_same]; omega
      · rw [g2, up_ne (Or.inr (by decide))]; exact h4
      · rw [g2, up_same]
      · rw [g2, up_ne (Or.inr (by decide))]
      · rw [← e1]
        exact g3.base (up_ne (Or.inl (by decide)))
/-- what follows again and again, by the reference -/
theorem M_loop (hB : Bsh X.2.2.1) (hT : TOk T n) (htx : 0 ≤ tx ∧ tx < 5) {Aft : Mm → (Mm → Prop) → Prop} {Jit : Mm → (Mm → Prop) → Prop} {it : Int → Rr} {s1 s2 o1 o2 : Int} {e D : Nat} (he : e ≤ 6) (hit : MJ T n tx e Jit it) (hg : PG n it) (hs12 : s1 ≠ 0 ∧ s2 ≠ 0)
    (haft : ∀ m Q0, TpM T n m → (0 ≤ m 83 3 ∧ m 83 3 ≤ 1000) → (-1 ≤ m 83 4 ∧ m 83 4 ≤ 1000) → (m 83 4 ≠ -1 → Q0 m) → (m 83 4 = -1 → ¬ (sgn T n (sk T n (m 83 3)) = s1 ∨ sgn T n (sk T n (m 83 3)) = s2) → Q0 (up m 83 3 (sk T n (m 83 3)))) → (m 83 4 = -1 → (sgn T n (sk T n (m 83 3)) = s1 ∨ sgn T n (sk T n (m 83 3)) = s2) → Jit (up m 83 3 (sk T n (m 83 3) + 1)) (fun m1 => M_put X D (if sgn T n (sk T n (m 83 3)) = s1 then o1 else o2) 0 m1 (fun m2 => Aft m2 Q0))) → Aft m Q0)
    {m0 : Mm} (hm0 : TpM T n m0) (h014 : m0 83 14 = tx) (h05 : m0 83 5 = 6 - e) (h0 : 0 ≤ m0 83 3) (h087 : 0 ≤ m0 87 tx ∧ m0 87 tx ≤ m0 83 3) : ∀ (k : Nat) (m : Mm) (r : Rr) (Q0 : Mm → Prop), mRes n tx e m0 m r → PR n (m0 83 3) r → (r.1 = true → n - r.2.1 ≤ k) → (∀ m', mRes n tx e m0 m' (lpP T n it s1 s2 o1 o2 k r) → Q0 m') → Aft m Q0 := by
  have hn := hT.1
  intro k
  induction k with
  | zero =>
    intro m r Q0 hc hr hk h
    obtain ⟨c1, c2, c3, c4, c5⟩ := hc
    obtain ⟨r1, r2, r3⟩ := hr
    have hq := h m ⟨c1, c2, c3, c4, c5⟩
    have c15 := c1.2.2.2.2
    cases hb : r.1 with
    | false =>
      have c5 := c5 hb
      exact haft m Q0 (hm0.r c1) (by omega) (by omega) (fun _ => hq) (fun z => by omega) (fun z => by omega)
    | true =>
      obtain ⟨d1, d2, d3, d4⟩ := c4 hb
      have hk := hk hb
      have e0 : sgn T n (sk T n (m 83 3)) = 0 := by rw [sk_big (by omega)]; unfold sgn; rw [if_neg (by omega)]
      refine haft m Q0 (hm0.r c1) (by omega) (by omega) (fun z => absurd d1 z) (fun _ _ => ?_) (fun _ z => by omega)
      rw [sk_big (by omega), up_id]
      exact hq
  | succ k ih =>
    intro m r Q0 hc hr hk h
    have hc0 := hc
    have hr0 := hr
    obtain ⟨c1, c2, c3, c4, c5⟩ := hc
    obtain ⟨r1, r2, r3⟩ := hr
    have c15 := c1.2.2.2.2
    have el : lpP T n it s1 s2 o1 o2 (k + 1) r = if r.1 = false then r else if sgn T n (sk T n r.2.1) = s1 ∨ sgn T n (sk T n r.2.1) = s2 then lpP T n it s1 s2 o1 o2 k ((it (sk T n r.2.1 + 1)).1, (it (sk T n r.2.1 + 1)).2.1, r.2.2 ++ ((it (sk T n r.2.1 + 1)).2.2 ++ [((if sgn T n (sk T n r.2.1) = s1 then o1 else o2), 0)])) else (true, sk T n r.2.1, r.2.2) := rfl
    rw [el] at h
    cases hb : r.1 with
    | false =>
      rw [if_pos hb] at h
      have hq := h m hc0
      have c5 := c5 hb
      exact haft m Q0 (hm0.r c1) (by omega) (by omega) (fun _ => hq) (fun z => by omega) (fun z => by omega)
    | true =>
      rw [if_neg (by rw [hb]; decide)] at h
      obtain ⟨d1, d2, d3, d4⟩ := c4 hb
      have r3 := r3 hb
      have hk := hk hb
      have hk1 := sk_ge T n r.2.1
      have hk2 := sk_le (T := T) r2
      have e87 := d4.1
      refine haft m Q0 (hm0.r c1) (by omega) (by omega) (fun z => absurd d1 z) (fun _ z => ?_) (fun _ z => ?_)
      · rw [d2] at z ⊢
        rw [if_neg z] at h
        refine h _ ⟨c1.u3 (Or.inl rfl), ?_, ?_, fun _ => ⟨?_, ?_, ?_, ?_⟩, fun e => by cases e⟩
        · rw [up_ne (Or.inl (by decide)), up_same]; omega
        · rw [up_same]; omega
        · rw [up_ne (Or.inr (by decide))]; exact d1
        · rw [up_same]
        · rw [up_ne (Or.inr (by decide))]; exact d3
        · exact d4.en (up_off (by decide)) (up_off (by decide)) (up_off (by decide))
      · rw [d2] at z ⊢
        rw [if_pos z] at h
        have hz := sgn_nz (T := T) (n := n) (a := sk T n r.2.1) (by omega)
        have hq := hg (sk T n r.2.1 + 1) (by omega) (by omega)
        have hqr : it (sk T n r.2.1 + 1) = it (sk T n r.2.1 + 1) := rfl
        refine hit.at (a := sk T n r.2.1 + 1) (up_same _ _ _ _) (hm0.r c1).at3 (by rw [up_ne (Or.inr (by decide)), c1.2.1 14 (by decide) (by decide) (by decide)]; exact h014) (by rw [up_ne (Or.inr (by decide))]; exact d1) (by rw [up_ne (Or.inr (by decide)), d3]; exact h05) (by omega) (by rw [up_ne (Or.inl (by decide))]; omega) (fun m1 g => ?_)
        generalize it (sk T n r.2.1 + 1) = q at h hq g
        generalize (if sgn T n (sk T n r.2.1) = s1 then o1 else o2) = o at h ⊢
        have g87 := g.2.1
        rw [up_same, up_ne (Or.inl (by decide))] at g87
        have g3 := g.2.2.1
        have gm := g.1.2.2.2.2
        rw [up_ne (Or.inl (by decide))] at gm
        have g14 : m1 83 14 = tx := by rw [g.1.2.1 14 (by decide) (by decide) (by decide), up_ne (Or.inr (by decide)), c1.2.1 14 (by decide) (by decide) (by decide)]; exact h014
        refine M_put_c hB htx g14 (by omega) (fun m2 w1 w2 w3 => ?_)
        have w87 := w3.1
        have w87' : m2 87 tx = m1 87 tx + 1 := by rw [w87]; rfl
        refine ih m2 (q.1, q.2.1, r.2.2 ++ (q.2.2 ++ [(o, 0)])) Q0 ⟨(c1.tr ((FrR.rf tx m).u3 (Or.inl rfl))).tr (g.1.tr w1), ?_, ?_, fun e1 => ?_, fun e1 => ?_⟩ ⟨by show m0 83 3 ≤ q.2.1; omega, hq.2.1, fun e1 => ?_⟩ (fun e1 => ?_) h
        · rw [w2]; omega
        · rw [w2]; omega
        · obtain ⟨k1, k2, k3, k4⟩ := g.2.2.2.1 e1
          refine ⟨by rw [w2]; exact k1, by rw [w2]; exact k2, ?_, ?_⟩
          · rw [w2, k3, up_ne (Or.inr (by decide))]
            exact d3
          · have k4' : stM tx m m1 q.2.2 := k4.base (up_ne (Or.inl (by decide)))
            have fm : FrR tx m m1 := ((FrR.rf tx m).u3 (Or.inl rfl)).tr g.1
            exact d4.tr (k4'.tr w3 w1) (fm.tr w1)
        · rw [w2]; exact g.2.2.2.2 e1
        · have hq2 := hq.2.2 e1
          refine ⟨?_, by show m0 83 3 < q.2.1; omega⟩
          show m0 83 3 + ((r.2.2 ++ (q.2.2 ++ [(o, 0)])).length : Int) ≤ q.2.1
          rw [List.length_append, List.length_append, List.length_singleton]
          omega
        · have hq2 := hq.2.2 e1
          show n - q.2.1 ≤ k
          omega
end MLaw2
