/-! ===== what is wanted at a place ===== -/
theorem K_lastRoww {X : Cx} {d : Nat} {c : Nat} {m : Mm} {Q : Int → Mm → Prop} (hB : Bsh X.2.2.1) (hc : cO c) (h : Q (m (c + 1) 3) m) : K_lastRow X d c m Q := by
  unfold K_lastRow
  have hcs := csh_of hB hc
  have hV : Clo (gP X.1 X.2.1) d 2 1 false (Rq (gP X.1 X.2.1) d 2 X.2.2.1 X.2.2.2 Q) := Rq_clo (q := mI2) rfl
  refine r_aload_n hV rfl rfl (pc' := 1) rfl ?_
  refine tt_getR hV (tg := 6) (ci := 0) (kf := 0) rfl rfl (by decide) hcs.1 rfl (by decide) (pc' := 4) rfl ?_
  refine tt_iconst hV rfl (pc' := 5) rfl ?_
  refine q_iald hV rfl hcs.2.1 (Nat.le_of_ble_eq_true rfl) rfl (by decide) (pc' := 6) rfl ?_
  exact rq_ret (q := mI2) rfl rfl rfl h
theorem K_ofBumpw {X : Cx} {d : Nat} {c : Nat} {x : Int} {y : Int} {m : Mm} {Q : Int → Mm → Prop} (hB : Bsh X.2.2.1) (hc : cO c) (h : (0 ≤ 4 * x + y ∧ 4 * x + y < 24) ∧ Q (m (c + 2) (4 * x + y)) m) : K_ofBump X d c x y m Q := by
  unfold K_ofBump
  have hcs := csh_of hB hc
  have hV : Clo (gP X.1 X.2.1) d 3 3 false (Rq (gP X.1 X.2.1) d 3 X.2.2.1 X.2.2.2 Q) := Rq_clo (q := mI3) rfl
  refine r_aload_n hV rfl rfl (pc' := 1) rfl ?_
  refine tt_getR hV (tg := 6) (ci := 0) (kf := 1) rfl rfl (by decide) hcs.1 rfl (by decide) (pc' := 4) rfl ?_
  refine r_iload_n hV rfl rfl (pc' := 5) rfl ?_
  refine tt_iconst hV rfl (pc' := 6) rfl ?_
  refine tt_imul hV rfl (pc' := 7) rfl ?_
  refine vtI (y := 4 * x) (by clear h; omega) ?_
  refine r_iload_n hV rfl rfl (pc' := 8) rfl ?_
  refine tt_iadd hV rfl (pc' := 9) rfl ?_
  obtain ⟨g1, h⟩ := h
  refine q_iald hV rfl hcs.2.2.1 (Nat.le_of_ble_eq_true rfl) rfl g1 (pc' := 10) rfl ?_
  exact rq_ret (q := mI3) rfl rfl rfl h
theorem K_ofMemberw {X : Cx} {d : Nat} {c : Nat} {x : Int} {y : Int} {m : Mm} {Q : Int → Mm → Prop} (hB : Bsh X.2.2.1) (hc : cO c) (h : (0 ≤ 4 * x + y ∧ 4 * x + y < 24) ∧ Q (m (c + 3) (4 * x + y)) m) : K_ofMember X d c x y m Q := by
  unfold K_ofMember
  have hcs := csh_of hB hc
  have hV : Clo (gP X.1 X.2.1) d 4 3 false (Rq (gP X.1 X.2.1) d 4 X.2.2.1 X.2.2.2 Q) := Rq_clo (q := mI4) rfl
  refine r_aload_n hV rfl rfl (pc' := 1) rfl ?_
  refine tt_getR hV (tg := 6) (ci := 0) (kf := 2) rfl rfl (by decide) hcs.1 rfl (by decide) (pc' := 4) rfl ?_
  refine r_iload_n hV rfl rfl (pc' := 5) rfl ?_
  refine tt_iconst hV rfl (pc' := 6) rfl ?_
  refine tt_imul hV rfl (pc' := 7) rfl ?_
  refine vtI (y := 4 * x) (by clear h; omega) ?_
  refine r_iload_n hV rfl rfl (pc' := 8) rfl ?_
  refine tt_iadd hV rfl (pc' := 9) rfl ?_
  obtain ⟨g1, h⟩ := h
  refine q_iald hV rfl hcs.2.2.2 (Nat.le_of_ble_eq_true rfl) rfl g1 (pc' := 10) rfl ?_
  exact rq_ret (q := mI4) rfl rfl rfl h
theorem K_sightOfw {X : Cx} {d : Nat} {c : Nat} {x : Int} {m : Mm} {Q : Int → Mm → Prop} (hB : Bsh X.2.2.1) (hc : cO c) (h : (0 ≤ 4 * x + 3 ∧ 4 * x + 3 < 24) ∧ Q (m (c + 3) (4 * x + 3)) m) : K_sightOf X d c x m Q := by
  unfold K_sightOf
  have hcs := csh_of hB hc
  have hV : Clo (gP X.1 X.2.1) d 5 2 false (Rq (gP X.1 X.2.1) d 5 X.2.2.1 X.2.2.2 Q) := Rq_clo (q := mI5) rfl
  refine r_aload_n hV rfl rfl (pc' := 1) rfl ?_
  refine tt_getR hV (tg := 6) (ci := 0) (kf := 2) rfl rfl (by decide) hcs.1 rfl (by decide) (pc' := 4) rfl ?_
  refine r_iload_n hV rfl rfl (pc' := 5) rfl ?_
  refine tt_iconst hV rfl (pc' := 6) rfl ?_
  refine tt_imul hV rfl (pc' := 7) rfl ?_
  refine vtI (y := 4 * x) (by clear h; omega) ?_
  refine tt_iconst hV rfl (pc' := 8) rfl ?_
  refine tt_iadd hV rfl (pc' := 9) rfl ?_
  obtain ⟨g1, h⟩ := h
  refine q_iald hV rfl hcs.2.2.2 (Nat.le_of_ble_eq_true rfl) rfl g1 (pc' := 10) rfl ?_
  exact rq_ret (q := mI5) rfl rfl rfl h
theorem K_bumpAtw {X : Cx} {d : Nat} {c : Nat} {x : Int} {y : Int} {m : Mm} {Q : Int → Mm → Prop} (hB : Bsh X.2.2.1) (hc : cO c) (h : K_bumpAt_2 X (d + 1) c x y 0 m Q) : K_bumpAt X (d + 1) c x y m Q := by
  unfold K_bumpAt
  have hcs := csh_of hB hc
  have hV : Clo (gP X.1 X.2.1) (d + 1) 6 4 false (Rq (gP X.1 X.2.1) (d + 1) 6 X.2.2.1 X.2.2.2 Q) := Rq_clo (q := mI6) rfl
  refine tt_iconst hV rfl (pc' := 1) rfl ?_
  refine tt_istore3 hV rfl rfl (pc' := 2) rfl ?_
  exact h
theorem K_bumpAt_2w {X : Cx} {d : Nat} {c : Nat} {x : Int} {y : Int} {l3 : Int} {m : Mm} {Q : Int → Mm → Prop} (hB : Bsh X.2.2.1) (hc : cO c) (h : (-2147483648 ≤ l3 ∧ l3 < 2147483648) ∧ (-2147483648 ≤ (m c 3) ∧ (m c 3) < 2147483648) ∧ (m c 3 ≤ l3 → Q (-1) m) ∧ (l3 < m c 3 → K_ofBump X d c l3 0 m (fun v13 m13 => (-2147483648 ≤ v13 ∧ v13 < 2147483648) ∧ (-2147483648 ≤ x ∧ x < 2147483648) ∧ (v13 ≠ x → K_bumpAt_2 X (d + 1) c x y (l3 + 1) m13 Q) ∧ (v13 = x → K_ofBump X d c l3 1 m13 (fun v23 m23 => (-2147483648 ≤ v23 ∧ v23 < 2147483648) ∧ (-2147483648 ≤ y ∧ y < 2147483648) ∧ (v23 ≠ y → K_bumpAt_2 X (d + 1) c x y (l3 + 1) m23 Q) ∧ (v23 = y → Q l3 m23)))))) : K_bumpAt_2 X (d + 1) c x y l3 m Q := by
  unfold K_bumpAt_2
  have hcs := csh_of hB hc
  have hV : Clo (gP X.1 X.2.1) (d + 1) 6 4 false (Rq (gP X.1 X.2.1) (d + 1) 6 X.2.2.1 X.2.2.2 Q) := Rq_clo (q := mI6) rfl
  refine r_iload_n hV rfl rfl (pc' := 3) rfl ?_
  refine r_aload_n hV rfl rfl (pc' := 4) rfl ?_
  refine tt_getI hV (tg := 0) (ci := 0) (kf := 3) rfl rfl (by decide) hcs.1 rfl (by decide) (pc' := 7) rfl ?_
  obtain ⟨g1, h⟩ := h
  obtain ⟨g2, h⟩ := h
  refine tt_icmp_ge hV rfl g1 g2 (pt := 38) (by decide) (pf := 10) rfl (fun hc => ?_) (fun hc => ?_)
  · replace h := h.1 hc
    refine tt_iconst hV rfl (pc' := 39) rfl ?_
    exact rq_ret (q := mI6) rfl rfl rfl h
  · replace h := h.2 (Int.not_le.mp hc)
    refine r_aload_n hV rfl rfl (pc' := 11) rfl ?_
    refine r_iload_n hV rfl rfl (pc' := 12) rfl ?_
    refine tt_iconst hV rfl (pc' := 13) rfl ?_
    obtain ⟨v13, m13, h, hr⟩ := h
    refine tt_cv2I hV rfl rfl rfl (Wd_obj hcs.1) (Nat.le_of_ble_eq_true rfl) (Nat.le_of_ble_eq_true rfl) rfl hr (pc' := 16) rfl ?_
    refine r_iload_n hV rfl rfl (pc' := 17) rfl ?_
    obtain ⟨g3, h⟩ := h
    obtain ⟨g4, h⟩ := h
    refine tt_icmp_ne hV rfl g3 g4 (pt := 32) (by decide) (pf := 20) rfl (fun hc => ?_) (fun hc => ?_)
    · replace h := h.1 hc
      refine tt_iinc3 hV rfl rfl (pc' := 35) rfl ?_
      refine r_goto hV rfl (pc' := 2) (by decide) ?_
      exact h
    · replace h := h.2 (Decidable.not_not.mp hc)
      refine r_aload_n hV rfl rfl (pc' := 21) rfl ?_
      refine r_iload_n hV rfl rfl (pc' := 22) rfl ?_
      refine tt_iconst hV rfl (pc' := 23) rfl ?_
      obtain ⟨v23, m23, h, hr⟩ := h
      refine tt_cv2I hV rfl rfl rfl (Wd_obj hcs.1) (Nat.le_of_ble_eq_true rfl) (Nat.le_of_ble_eq_true rfl) rfl hr (pc' := 26) rfl ?_
      refine r_iload_n hV rfl rfl (pc' := 27) rfl ?_
      obtain ⟨g5, h⟩ := h
      obtain ⟨g6, h⟩ := h
      refine tt_icmp_ne hV rfl g5 g6 (pt := 32) (by decide) (pf := 30) rfl (fun hc => ?_) (fun hc => ?_)
      · replace h := h.1 hc
        refine tt_iinc3 hV rfl rfl (pc' := 35) rfl ?_
        refine r_goto hV rfl (pc' := 2) (by decide) ?_
        exact h
      · replace h := h.2 (Decidable.not_not.mp hc)
        refine r_iload_n hV rfl rfl (pc' := 31) rfl ?_
        exact rq_ret (q := mI6) rfl rfl rfl h
theorem K_clearw {X : Cx} {d : Nat} {c : Nat} {m : Mm} {Q : Mm → Prop} (hB : Bsh X.2.2.1) (hc : cO c) (h : Q (up (up (up (up m c 3 0) c 4 0) c 5 0) c 6 0)) : K_clear X d c m Q := by
  unfold K_clear
  have hcs := csh_of hB hc
  have hV : Clo (gP X.1 X.2.1) d 7 1 false (Ru0 (gP X.1 X.2.1) d 7 X.2.2.1 X.2.2.2 Q) := Ru0_clo (q := mI7) rfl
  refine r_aload_n hV rfl rfl (pc' := 1) rfl ?_
  refine tt_iconst hV rfl (pc' := 2) rfl ?_
  refine tt_putI hV (tg := 0) (ci := 0) (kf := 3) rfl rfl (Or.inl rfl) hcs.1 rfl (by decide) rfl (pc' := 5) rfl ?_
  refine r_aload_n hV rfl rfl (pc' := 6) rfl ?_
  refine tt_iconst hV rfl (pc' := 7) rfl ?_
  refine tt_putI hV (tg := 0) (ci := 0) (kf := 4) rfl rfl (Or.inl rfl) hcs.1 rfl (by decide) rfl (pc' := 10) rfl ?_
  refine r_aload_n hV rfl rfl (pc' := 11) rfl ?_
  refine tt_iconst hV rfl (pc' := 12) rfl ?_
  refine tt_putI hV (tg := 0) (ci := 0) (kf := 5) rfl rfl (Or.inl rfl) hcs.1 rfl (by decide) rfl (pc' := 15) rfl ?_
  refine r_aload_n hV rfl rfl (pc' := 16) rfl ?_
  refine tt_iconst hV rfl (pc' := 17) rfl ?_
  refine tt_putZ hV (tg := 0) (ci := 0) (kf := 6) rfl rfl (Or.inl rfl) hcs.1 rfl (by decide) rfl (by decide) (pc' := 20) rfl ?_
  exact ru0_ret (q := mI7) rfl rfl rfl h
theorem K_addBumpw {X : Cx} {d : Nat} {c : Nat} {m : Mm} {Q : Mm → Prop} (hB : Bsh X.2.2.1) (hc : cO c) (h : (-2147483648 ≤ (m c 3) ∧ (m c 3) < 2147483648) ∧ (6 ≤ m c 3 → Q m) ∧ (m c 3 < 6 → ((0 : Int) ≤ 4 * (m c 3) ∧ 4 * (m c 3) + 4 ≤ 24) ∧ Q (up (upR m (c + 2) (4 * (m c 3)) (4 * (m c 3) + 4) (fun j => (m 4 (j - (4 * (m c 3)) + 0)))) c 3 (m c 3 + 1)))) : K_addBump X (d + 1) c m Q := by
  unfold K_addBump
  have hcs := csh_of hB hc
  have hV : Clo (gP X.1 X.2.1) (d + 1) 8 2 false (Ru0 (gP X.1 X.2.1) (d + 1) 8 X.2.2.1 X.2.2.2 Q) := Ru0_clo (q := mI8) rfl
  refine r_aload_n hV rfl rfl (pc' := 1) rfl ?_
  refine tt_getI hV (tg := 0) (ci := 0) (kf := 3) rfl rfl (by decide) hcs.1 rfl (by decide) (pc' := 4) rfl ?_
  refine tt_bipush hV rfl (by decide) (pc' := 6) rfl ?_
  obtain ⟨g1, h⟩ := h
  refine tt_icmp_ge hV rfl g1 (by decide) (pt := 41) (by decide) (pf := 9) rfl (fun hc => ?_) (fun hc => ?_)
  · replace h := h.1 hc
    exact ru0_ret (q := mI8) rfl rfl rfl h
  · replace h := h.2 (Int.not_le.mp hc)
    refine r_aload_n hV rfl rfl (pc' := 10) rfl ?_
    refine q_alen hV rfl (hB _ _ rfl) (by decide) (z := 5) rfl (pc' := 11) rfl ?_
    refine tt_iconst hV rfl (pc' := 12) rfl ?_
    refine tt_icmp_lt hV rfl (by decide) (by decide) (pt := 41) (by decide) (pf := 15) rfl (fun hc => absurd hc (by decide)) (fun hc => ?_)
    clear hc
    refine r_aload_n hV rfl rfl (pc' := 16) rfl ?_
    refine tt_iconst hV rfl (pc' := 17) rfl ?_
    refine r_aload_n hV rfl rfl (pc' := 18) rfl ?_
    refine tt_getR hV (tg := 6) (ci := 0) (kf := 1) rfl rfl (by decide) hcs.1 rfl (by decide) (pc' := 21) rfl ?_
    refine r_aload_n hV rfl rfl (pc' := 22) rfl ?_
    refine tt_getI hV (tg := 0) (ci := 0) (kf := 3) rfl rfl (by decide) hcs.1 rfl (by decide) (pc' := 25) rfl ?_
    refine tt_iconst hV rfl (pc' := 26) rfl ?_
    refine tt_imul hV rfl (pc' := 27) rfl ?_
    refine vtI (y := 4 * (m c 3)) (by clear h; omega) ?_
    refine tt_iconst hV rfl (pc' := 28) rfl ?_
    obtain ⟨g2, h⟩ := h
    refine q_copy hV rfl rfl rfl (hB _ _ rfl) hcs.2.2.1 (Nat.le_of_ble_eq_true rfl) (Nat.le_of_ble_eq_true rfl) rfl rfl (by decide) g2 (by decide) (Nat.le_of_ble_eq_true rfl) (pc' := 31) rfl ?_
    refine r_aload_n hV rfl rfl (pc' := 32) rfl ?_
    refine r_dup hV rfl rfl (pc' := 33) rfl ?_
    refine tt_getI hV (tg := 0) (ci := 0) (kf := 3) rfl rfl (by decide) hcs.1 rfl (by decide) (pc' := 36) rfl ?_
    refine vtI (y := m c 3) (upR_ne (by clear h; omega)) ?_
    refine tt_iconst hV rfl (pc' := 37) rfl ?_
    refine tt_iadd hV rfl (pc' := 38) rfl ?_
    refine tt_putI hV (tg := 0) (ci := 0) (kf := 3) rfl rfl (Or.inl rfl) hcs.1 rfl (by decide) rfl (pc' := 41) rfl ?_
    exact ru0_ret (q := mI8) rfl rfl rfl h
theorem K_addMemberw {X : Cx} {d : Nat} {c : Nat} {m : Mm} {Q : Mm → Prop} (hB : Bsh X.2.2.1) (hc : cO c) (h : (-2147483648 ≤ (m c 4) ∧ (m c 4) < 2147483648) ∧ (6 ≤ m c 4 → Q m) ∧ (m c 4 < 6 → ((0 : Int) ≤ 4 * (m c 4) ∧ 4 * (m c 4) + 4 ≤ 24) ∧ Q (up (upR m (c + 3) (4 * (m c 4)) (4 * (m c 4) + 4) (fun j => (m 4 (j - (4 * (m c 4)) + 0)))) c 4 (m c 4 + 1)))) : K_addMember X (d + 1) c m Q := by
  unfold K_addMember
  have hcs := csh_of hB hc
  have hV : Clo (gP X.1 X.2.1) (d + 1) 9 2 false (Ru0 (gP X.1 X.2.1) (d + 1) 9 X.2.2.1 X.2.2.2 Q) := Ru0_clo (q := mI9) rfl
  refine r_aload_n hV rfl rfl (pc' := 1) rfl ?_
  refine tt_getI hV (tg := 0) (ci := 0) (kf := 4) rfl rfl (by decide) hcs.1 rfl (by decide) (pc' := 4) rfl ?_
  refine tt_bipush hV rfl (by decide) (pc' := 6) rfl ?_
  obtain ⟨g1, h⟩ := h
  refine tt_icmp_ge hV rfl g1 (by decide) (pt := 41) (by decide) (pf := 9) rfl (fun hc => ?_) (fun hc => ?_)
  · replace h := h.1 hc
    exact ru0_ret (q := mI9) rfl rfl rfl h
  · replace h := h.2 (Int.not_le.mp hc)
    refine r_aload_n hV rfl rfl (pc' := 10) rfl ?_
    refine q_alen hV rfl (hB _ _ rfl) (by decide) (z := 5) rfl (pc' := 11) rfl ?_
    refine tt_iconst hV rfl (pc' := 12) rfl ?_
    refine tt_icmp_lt hV rfl (by decide) (by decide) (pt := 41) (by decide) (pf := 15) rfl (fun hc => absurd hc (by decide)) (fun hc => ?_)
    clear hc
    refine r_aload_n hV rfl rfl (pc' := 16) rfl ?_
    refine tt_iconst hV rfl (pc' := 17) rfl ?_
    refine r_aload_n hV rfl rfl (pc' := 18) rfl ?_
    refine tt_getR hV (tg := 6) (ci := 0) (kf := 2) rfl rfl (by decide) hcs.1 rfl (by decide) (pc' := 21) rfl ?_
    refine r_aload_n hV rfl rfl (pc' := 22) rfl ?_
    refine tt_getI hV (tg := 0) (ci := 0) (kf := 4) rfl rfl (by decide) hcs.1 rfl (by decide) (pc' := 25) rfl ?_
    refine tt_iconst hV rfl (pc' := 26) rfl ?_
    refine tt_imul hV rfl (pc' := 27) rfl ?_
    refine vtI (y := 4 * (m c 4)) (by clear h; omega) ?_
    refine tt_iconst hV rfl (pc' := 28) rfl ?_
    obtain ⟨g2, h⟩ := h
    refine q_copy hV rfl rfl rfl (hB _ _ rfl) hcs.2.2.2 (Nat.le_of_ble_eq_true rfl) (Nat.le_of_ble_eq_true rfl) rfl rfl (by decide) g2 (by decide) (Nat.le_of_ble_eq_true rfl) (pc' := 31) rfl ?_
    refine r_aload_n hV rfl rfl (pc' := 32) rfl ?_
    refine r_dup hV rfl rfl (pc' := 33) rfl ?_
    refine tt_getI hV (tg := 0) (ci := 0) (kf := 4) rfl rfl (by decide) hcs.1 rfl (by decide) (pc' := 36) rfl ?_
    refine vtI (y := m c 4) (upR_ne (by clear h; omega)) ?_
    refine tt_iconst hV rfl (pc' := 37) rfl ?_
    refine tt_iadd hV rfl (pc' := 38) rfl ?_
    refine tt_putI hV (tg := 0) (ci := 0) (kf := 4) rfl rfl (Or.inl rfl) hcs.1 rfl (by decide) rfl (pc' := 41) rfl ?_
    exact ru0_ret (q := mI9) rfl rfl rfl h
theorem K_addIcew {X : Cx} {d : Nat} {c : Nat} {x : Int} {m : Mm} {Q : Mm → Prop} (hB : Bsh X.2.2.1) (hc : cO c) (h : (-2147483648 ≤ (m c 6) ∧ (m c 6) < 2147483648) ∧ (m c 6 ≠ 0 → Q (up (up m c 6 1) c 5 ((iO (m c 5) ((iSl 1 x)))))) ∧ (m c 6 = 0 → ((iA ((iSr (m c 5) x)) 1) ≠ 1 → Q (up (up m c 6 0) c 5 ((iO (m c 5) ((iSl 1 x)))))) ∧ ((iA ((iSr (m c 5) x)) 1) = 1 → Q (up (up m c 6 1) c 5 ((iO (m c 5) ((iSl 1 x)))))))) : K_addIce X d c x m Q := by
  unfold K_addIce
  have hcs := csh_of hB hc
  have hV : Clo (gP X.1 X.2.1) d 10 2 false (Ru0 (gP X.1 X.2.1) d 10 X.2.2.1 X.2.2.2 Q) := Ru0_clo (q := mI10) rfl
  refine r_aload_n hV rfl rfl (pc' := 1) rfl ?_
  refine r_aload_n hV rfl rfl (pc' := 2) rfl ?_
  refine tt_getI hV (tg := 0) (ci := 0) (kf := 6) rfl rfl (by decide) hcs.1 rfl (by decide) (pc' := 5) rfl ?_
  obtain ⟨g1, h⟩ := h
  refine tt_if_ne hV rfl g1 (pt := 20) (by decide) (pf := 8) rfl (fun hc => ?_) (fun hc => ?_)
  · replace h := h.1 hc
    refine tt_iconst hV rfl (pc' := 21) rfl ?_
    refine r_goto hV rfl (pc' := 25) (by decide) ?_
    refine tt_putZ hV (tg := 0) (ci := 0) (kf := 6) rfl rfl (Or.inl rfl) hcs.1 rfl (by decide) rfl (by decide) (pc' := 28) rfl ?_
    refine r_aload_n hV rfl rfl (pc' := 29) rfl ?_
    refine r_dup hV rfl rfl (pc' := 30) rfl ?_
    refine tt_getI hV (tg := 0) (ci := 0) (kf := 5) rfl rfl (by decide) hcs.1 rfl (by decide) (pc' := 33) rfl ?_
    refine vtI (y := m c 5) (up_ne (Or.inr (by decide))) ?_
    refine tt_iconst hV rfl (pc' := 34) rfl ?_
    refine r_iload_n hV rfl rfl (pc' := 35) rfl ?_
    refine tt_ishl hV rfl (pc' := 36) rfl ?_
    refine tt_ior hV rfl (pc' := 37) rfl ?_
    refine tt_putI hV (tg := 0) (ci := 0) (kf := 5) rfl rfl (Or.inl rfl) hcs.1 rfl (by decide) rfl (pc' := 40) rfl ?_
    exact ru0_ret (q := mI10) rfl rfl rfl h
  · replace h := h.2 (Decidable.not_not.mp hc)
    refine r_aload_n hV rfl rfl (pc' := 9) rfl ?_
    refine tt_getI hV (tg := 0) (ci := 0) (kf := 5) rfl rfl (by decide) hcs.1 rfl (by decide) (pc' := 12) rfl ?_
    refine r_iload_n hV rfl rfl (pc' := 13) rfl ?_
    refine tt_ishr hV rfl (pc' := 14) rfl ?_
    refine tt_iconst hV rfl (pc' := 15) rfl ?_
    refine tt_iand hV rfl (pc' := 16) rfl ?_
    refine tt_iconst hV rfl (pc' := 17) rfl ?_
    refine tt_icmp_ne hV rfl (i32R _) (by decide) (pt := 24) (by decide) (pf := 20) rfl (fun hc => ?_) (fun hc => ?_)
    · replace h := h.1 hc
      refine tt_iconst hV rfl (pc' := 25) rfl ?_
      refine tt_putZ hV (tg := 0) (ci := 0) (kf := 6) rfl rfl (Or.inl rfl) hcs.1 rfl (by decide) rfl (by decide) (pc' := 28) rfl ?_
      refine r_aload_n hV rfl rfl (pc' := 29) rfl ?_
      refine r_dup hV rfl rfl (pc' := 30) rfl ?_
      refine tt_getI hV (tg := 0) (ci := 0) (kf := 5) rfl rfl (by decide) hcs.1 rfl (by decide) (pc' := 33) rfl ?_
      refine vtI (y := m c 5) (up_ne (Or.inr (by decide))) ?_
      refine tt_iconst hV rfl (pc' := 34) rfl ?_
      refine r_iload_n hV rfl rfl (pc' := 35) rfl ?_
      refine tt_ishl hV rfl (pc' := 36) rfl ?_
      refine tt_ior hV rfl (pc' := 37) rfl ?_
      refine tt_putI hV (tg := 0) (ci := 0) (kf := 5) rfl rfl (Or.inl rfl) hcs.1 rfl (by decide) rfl (pc' := 40) rfl ?_
      exact ru0_ret (q := mI10) rfl rfl rfl h
    · replace h := h.2 (Decidable.not_not.mp hc)
      refine tt_iconst hV rfl (pc' := 21) rfl ?_
      refine r_goto hV rfl (pc' := 25) (by decide) ?_
      refine tt_putZ hV (tg := 0) (ci := 0) (kf := 6) rfl rfl (Or.inl rfl) hcs.1 rfl (by decide) rfl (by decide) (pc' := 28) rfl ?_
      refine r_aload_n hV rfl rfl (pc' := 29) rfl ?_
      refine r_dup hV rfl rfl (pc' := 30) rfl ?_
      refine tt_getI hV (tg := 0) (ci := 0) (kf := 5) rfl rfl (by decide) hcs.1 rfl (by decide) (pc' := 33) rfl ?_
      refine vtI (y := m c 5) (up_ne (Or.inr (by decide))) ?_
      refine tt_iconst hV rfl (pc' := 34) rfl ?_
      refine r_iload_n hV rfl rfl (pc' := 35) rfl ?_
      refine tt_ishl hV rfl (pc' := 36) rfl ?_
      refine tt_ior hV rfl (pc' := 37) rfl ?_
      refine tt_putI hV (tg := 0) (ci := 0) (kf := 5) rfl rfl (Or.inl rfl) hcs.1 rfl (by decide) rfl (pc' := 40) rfl ?_
      exact ru0_ret (q := mI10) rfl rfl rfl h
theorem K_isSoundw {X : Cx} {d : Nat} {c : Nat} {m : Mm} {Q : Int → Mm → Prop} (hB : Bsh X.2.2.1) (hc : cO c) (h : (-2147483648 ≤ (m c 4) ∧ (m c 4) < 2147483648) ∧ (m c 4 = 0 → Q 0 m) ∧ (m c 4 ≠ 0 → (-2147483648 ≤ (m c 6) ∧ (m c 6) < 2147483648) ∧ (m c 6 ≠ 0 → Q 0 m) ∧ (m c 6 = 0 → (-2147483648 ≤ (m (c + 1) 1) ∧ (m (c + 1) 1) < 2147483648) ∧ (-2147483648 ≤ (m (c + 1) 0) ∧ (m (c + 1) 0) < 2147483648) ∧ (m (c + 1) 1 < m (c + 1) 0 → K_isSound_33 X (d + 1) c 0 none m Q) ∧ (m (c + 1) 0 ≤ m (c + 1) 1 → Q 0 m)))) : K_isSound X (d + 1) c m Q := by
  unfold K_isSound
  have hcs := csh_of hB hc
  have hV : Clo (gP X.1 X.2.1) (d + 1) 11 3 false (Rq (gP X.1 X.2.1) (d + 1) 11 X.2.2.1 X.2.2.2 Q) := Rq_clo (q := mI11) rfl
  refine r_aload_n hV rfl rfl (pc' := 1) rfl ?_
  refine tt_getI hV (tg := 0) (ci := 0) (kf := 4) rfl rfl (by decide) hcs.1 rfl (by decide) (pc' := 4) rfl ?_
  obtain ⟨g1, h⟩ := h
  refine tt_if_eq hV rfl g1 (pt := 29) (by decide) (pf := 7) rfl (fun hc => ?_) (fun hc => ?_)
  · replace h := h.1 hc
    refine tt_iconst hV rfl (pc' := 30) rfl ?_
    exact rq_ret (q := mI11) rfl rfl rfl h
  · replace h := h.2 hc
    refine r_aload_n hV rfl rfl (pc' := 8) rfl ?_
    refine tt_getI hV (tg := 0) (ci := 0) (kf := 6) rfl rfl (by decide) hcs.1 rfl (by decide) (pc' := 11) rfl ?_
    obtain ⟨g2, h⟩ := h
    refine tt_if_ne hV rfl g2 (pt := 29) (by decide) (pf := 14) rfl (fun hc => ?_) (fun hc => ?_)
    · replace h := h.1 hc
      refine tt_iconst hV rfl (pc' := 30) rfl ?_
      exact rq_ret (q := mI11) rfl rfl rfl h
    · replace h := h.2 (Decidable.not_not.mp hc)
      refine r_aload_n hV rfl rfl (pc' := 15) rfl ?_
      refine tt_getR hV (tg := 6) (ci := 0) (kf := 0) rfl rfl (by decide) hcs.1 rfl (by decide) (pc' := 18) rfl ?_
      refine tt_iconst hV rfl (pc' := 19) rfl ?_
      refine q_iald hV rfl hcs.2.1 (Nat.le_of_ble_eq_true rfl) rfl (by decide) (pc' := 20) rfl ?_
      refine r_aload_n hV rfl rfl (pc' := 21) rfl ?_
      refine tt_getR hV (tg := 6) (ci := 0) (kf := 0) rfl rfl (by decide) hcs.1 rfl (by decide) (pc' := 24) rfl ?_
      refine tt_iconst hV rfl (pc' := 25) rfl ?_
      refine q_iald hV rfl hcs.2.1 (Nat.le_of_ble_eq_true rfl) rfl (by decide) (pc' := 26) rfl ?_
      obtain ⟨g3, h⟩ := h
      obtain ⟨g4, h⟩ := h
      refine tt_icmp_lt hV rfl g3 g4 (pt := 31) (by decide) (pf := 29) rfl (fun hc => ?_) (fun hc => ?_)
      · replace h := h.1 hc
        refine tt_iconst hV rfl (pc' := 32) rfl ?_
        refine tt_istore1 hV rfl rfl (pc' := 33) rfl ?_
        exact h
      · replace h := h.2 (Int.not_lt.mp hc)
        refine tt_iconst hV rfl (pc' := 30) rfl ?_
        exact rq_ret (q := mI11) rfl rfl rfl h
theorem K_isSound_33w {X : Cx} {d : Nat} {c : Nat} {l1 : Int} {o2 : Option Int} {m : Mm} {Q : Int → Mm → Prop} (hB : Bsh X.2.2.1) (hc : cO c) (h : (-2147483648 ≤ l1 ∧ l1 < 2147483648) ∧ (-2147483648 ≤ (m c 3) ∧ (m c 3) < 2147483648) ∧ (m c 3 ≤ l1 → Q 1 m) ∧ (l1 < m c 3 → K_ofBump X d c l1 1 m (fun v44 m44 => (-2147483648 ≤ v44 ∧ v44 < 2147483648) ∧ (-2147483648 ≤ (m44 (c + 1) 0) ∧ (m44 (c + 1) 0) < 2147483648) ∧ (m44 (c + 1) 0 ≤ v44 → Q 0 m44) ∧ (v44 < m44 (c + 1) 0 → K_ofBump X d c l1 0 m44 (fun v62 m62 => K_bumpAt X d c v62 v44 m62 (fun v66 m66 => (-2147483648 ≤ v66 ∧ v66 < 2147483648) ∧ (v66 = l1 → K_isSound_33 X (d + 1) c (l1 + 1) (some v44) m66 Q) ∧ (v66 ≠ l1 → Q 0 m66))))))) : K_isSound_33 X (d + 1) c l1 o2 m Q := by
  unfold K_isSound_33
  have hcs := csh_of hB hc
  have hV : Clo (gP X.1 X.2.1) (d + 1) 11 3 false (Rq (gP X.1 X.2.1) (d + 1) 11 X.2.2.1 X.2.2.2 Q) := Rq_clo (q := mI11) rfl
  refine r_iload_n hV rfl rfl (pc' := 34) rfl ?_
  refine r_aload_n hV rfl rfl (pc' := 35) rfl ?_
  refine tt_getI hV (tg := 0) (ci := 0) (kf := 3) rfl rfl (by decide) hcs.1 rfl (by decide) (pc' := 38) rfl ?_
  obtain ⟨g5, h⟩ := h
  obtain ⟨g6, h⟩ := h
  refine tt_icmp_ge hV rfl g5 g6 (pt := 81) (by decide) (pf := 41) rfl (fun hc => ?_) (fun hc => ?_)
  · replace h := h.1 hc
    refine tt_iconst hV rfl (pc' := 82) rfl ?_
    exact rq_ret (q := mI11) rfl rfl rfl h
  · replace h := h.2 (Int.not_le.mp hc)
    refine r_aload_n hV rfl rfl (pc' := 42) rfl ?_
    refine r_iload_n hV rfl rfl (pc' := 43) rfl ?_
    refine tt_iconst hV rfl (pc' := 44) rfl ?_
    obtain ⟨v44, m44, h, hr⟩ := h
    refine tt_cv2I hV rfl rfl rfl (Wd_obj hcs.1) (Nat.le_of_ble_eq_true rfl) (Nat.le_of_ble_eq_true rfl) rfl hr (pc' := 47) rfl ?_
    refine tt_istore2 hV rfl rfl (pc' := 48) rfl ?_
    refine r_iload_n hV rfl rfl (pc' := 49) rfl ?_
    refine r_aload_n hV rfl rfl (pc' := 50) rfl ?_
    refine tt_getR hV (tg := 6) (ci := 0) (kf := 0) rfl rfl (by decide) hcs.1 rfl (by decide) (pc' := 53) rfl ?_
    refine tt_iconst hV rfl (pc' := 54) rfl ?_
    refine q_iald hV rfl hcs.2.1 (Nat.le_of_ble_eq_true rfl) rfl (by decide) (pc' := 55) rfl ?_
    obtain ⟨g7, h⟩ := h
    obtain ⟨g8, h⟩ := h
    refine tt_icmp_ge hV rfl g7 g8 (pt := 73) (by decide) (pf := 58) rfl (fun hc => ?_) (fun hc => ?_)
    · replace h := h.1 hc
      refine tt_iconst hV rfl (pc' := 74) rfl ?_
      exact rq_ret (q := mI11) rfl rfl rfl h
    · replace h := h.2 (Int.not_le.mp hc)
      refine r_aload_n hV rfl rfl (pc' := 59) rfl ?_
      refine r_aload_n hV rfl rfl (pc' := 60) rfl ?_
      refine r_iload_n hV rfl rfl (pc' := 61) rfl ?_
      refine tt_iconst hV rfl (pc' := 62) rfl ?_
      obtain ⟨v62, m62, h, hr⟩ := h
      refine tt_cv2I hV rfl rfl rfl (Wd_obj hcs.1) (Nat.le_of_ble_eq_true rfl) (Nat.le_of_ble_eq_true rfl) rfl hr (pc' := 65) rfl ?_
      refine r_iload_n hV rfl rfl (pc' := 66) rfl ?_
      obtain ⟨v66, m66, h, hr⟩ := h
      refine tt_cv2I hV rfl rfl rfl (Wd_obj hcs.1) (Nat.le_of_ble_eq_true rfl) (Nat.le_of_ble_eq_true rfl) rfl hr (pc' := 69) rfl ?_
      refine r_iload_n hV rfl rfl (pc' := 70) rfl ?_
      obtain ⟨g9, h⟩ := h
      refine tt_icmp_eq hV rfl g9 g5 (pt := 75) (by decide) (pf := 73) rfl (fun hc => ?_) (fun hc => ?_)
      · replace h := h.1 hc
        refine tt_iinc1 hV rfl rfl (pc' := 78) rfl ?_
        refine r_goto hV rfl (pc' := 33) (by decide) ?_
        exact h
      · replace h := h.2 hc
        refine tt_iconst hV rfl (pc' := 74) rfl ?_
        exact rq_ret (q := mI11) rfl rfl rfl h
theorem R_readw {X : Cx} {d : Nat} {c : Nat} {m : Mm} {Q : Int → Mm → Prop} (hB : Bsh X.2.2.1) (hc : cO c) (hB2 : X.2.2.1.length ≤ 1000000) (h : K_clear X d c m (fun m1 => A_fill X d 5 0 (upR m1 (c + 1) 0 (0 + 5) (fun j => (gx xUSUAL (j - 0 + 0)))) (fun m26 => R_read_36 X (d + 1) c 0 (up m26 3 3 0) Q))) : R_read X (d + 1) c m Q := by
  unfold R_read
  have hcs := csh_of hB hc
  have hV : Clo (gP X.1 X.2.1) (d + 1) 13 3 false (Rq (gP X.1 X.2.1) (d + 1) 13 X.2.2.1 X.2.2.2 Q) := Rq_clo (q := mI13) rfl
  refine r_aload_n hV rfl rfl (pc' := 1) rfl ?_
  obtain ⟨m1, h, hr⟩ := h
  refine tt_cv0U hV rfl rfl rfl (Wd_obj hcs.1) (Nat.le_of_ble_eq_true rfl) (Nat.le_of_ble_eq_true rfl) rfl hr (pc' := 4) rfl ?_
  refine r_gets hV rfl rfl rfl (pc' := 7) rfl ?_
  refine tt_iconst hV rfl (pc' := 8) rfl ?_
  refine r_aload_n hV rfl rfl (pc' := 9) rfl ?_
  refine tt_getR hV (tg := 10) (ci := 0) (kf := 0) rfl rfl (by decide) hcs.1 rfl (by decide) (pc' := 12) rfl ?_
  refine tt_iconst hV rfl (pc' := 13) rfl ?_
  refine r_aload_n hV rfl rfl (pc' := 14) rfl ?_
  refine tt_getR hV (tg := 10) (ci := 0) (kf := 0) rfl rfl (by decide) hcs.1 rfl (by decide) (pc' := 17) rfl ?_
  refine q_alen hV rfl hcs.2.1 (by decide) (z := 5) rfl (pc' := 18) rfl ?_
  refine q_copyX hV (a0 := 1000001) (T := xUSUAL) (K := 14) rfl rfl rfl hB2 rfl rfl rfl rfl hcs.2.1 (Nat.le_of_ble_eq_true rfl) rfl (by decide) (by decide) (by decide) rfl (Nat.le_of_ble_eq_true rfl) (Nat.le_of_ble_eq_true rfl) (pc' := 21) rfl ?_
  refine r_aload_n hV rfl rfl (pc' := 22) rfl ?_
  refine tt_getR hV (tg := 6) (ci := 1) (kf := 2) rfl rfl (by decide) (hB _ _ rfl) rfl (by decide) (pc' := 25) rfl ?_
  refine tt_iconst hV rfl (pc' := 26) rfl ?_
  obtain ⟨m26, h, hr⟩ := h
  refine tt_cs2U hV rfl rfl rfl (Nat.le_of_ble_eq_true rfl) (Nat.le_of_ble_eq_true rfl) rfl hr (pc' := 29) rfl ?_
  refine r_aload_n hV rfl rfl (pc' := 30) rfl ?_
  refine tt_iconst hV rfl (pc' := 31) rfl ?_
  refine tt_putI hV (tg := 0) (ci := 1) (kf := 3) rfl rfl (Or.inl rfl) (hB _ _ rfl) rfl (by decide) rfl (pc' := 34) rfl ?_
  refine tt_iconst hV rfl (pc' := 35) rfl ?_
  refine tt_istore2 hV rfl rfl (pc' := 36) rfl ?_
  exact h
theorem R_read_36w {X : Cx} {d : Nat} {c : Nat} {l2 : Int} {m : Mm} {Q : Int → Mm → Prop} (hB : Bsh X.2.2.1) (hc : cO c) (hB2 : X.2.2.1.length ≤ 1000000) (h : (-2147483648 ≤ l2 ∧ l2 < 2147483648) ∧ (240 < l2 → Q (m 3 3) m) ∧ (l2 ≤ 240 → R_readClause X d c m (fun v45 m45 => (-2147483648 ≤ v45 ∧ v45 < 2147483648) ∧ (v45 ≠ 0 → (-2147483648 ≤ (m45 3 3) ∧ (m45 3 3) < 2147483648) ∧ (-2147483648 ≤ (m45 1 1) ∧ (m45 1 1) < 2147483648) ∧ (m45 3 3 < m45 1 1 → R_read_36 X (d + 1) c (l2 + 1) (up m45 3 3 (m45 3 3 + 1)) Q) ∧ (m45 1 1 ≤ m45 3 3 → K_isSound X d c m45 (fun v71 m71 => (-2147483648 ≤ v71 ∧ v71 < 2147483648) ∧ (v71 = 0 → Q (m71 1 1) m71) ∧ (v71 ≠ 0 → Q (-1) m71)))) ∧ (v45 = 0 → Q (m45 3 3) m45)))) : R_read_36 X (d + 1) c l2 m Q := by
  unfold R_read_36
  have hcs := csh_of hB hc
  have hV : Clo (gP X.1 X.2.1) (d + 1) 13 3 false (Rq (gP X.1 X.2.1) (d + 1) 13 X.2.2.1 X.2.2.2 Q) := Rq_clo (q := mI13) rfl
  refine r_iload_n hV rfl rfl (pc' := 37) rfl ?_
  refine tt_sipush hV rfl (by decide) (pc' := 40) rfl ?_
  obtain ⟨g1, h⟩ := h
  refine tt_icmp_gt hV rfl g1 (by decide) (pt := 105) (by decide) (pf := 43) rfl (fun hc => ?_) (fun hc => ?_)
  · replace h := h.1 hc
    refine r_aload_n hV rfl rfl (pc' := 106) rfl ?_
    refine tt_getI hV (tg := 0) (ci := 1) (kf := 3) rfl rfl (by decide) (hB _ _ rfl) rfl (by decide) (pc' := 109) rfl ?_
    exact rq_ret (q := mI13) rfl rfl rfl h
  · replace h := h.2 (Int.not_lt.mp hc)
    refine r_aload_n hV rfl rfl (pc' := 44) rfl ?_
    refine r_aload_n hV rfl rfl (pc' := 45) rfl ?_
    obtain ⟨v45, m45, h, hr⟩ := h
    refine tt_cv1I hV rfl rfl rfl (Wd_obj (hB _ _ rfl)) (Nat.le_of_ble_eq_true rfl) (Nat.le_of_ble_eq_true rfl) rfl hr (pc' := 48) rfl ?_
    obtain ⟨g2, h⟩ := h
    refine tt_if_ne hV rfl g2 (pt := 56) (by decide) (pf := 51) rfl (fun hc => ?_) (fun hc => ?_)
    · replace h := h.1 hc
      refine r_aload_n hV rfl rfl (pc' := 57) rfl ?_
      refine tt_getI hV (tg := 0) (ci := 1) (kf := 3) rfl rfl (by decide) (hB _ _ rfl) rfl (by decide) (pc' := 60) rfl ?_
      refine r_aload_n hV rfl rfl (pc' := 61) rfl ?_
      refine tt_getR hV (tg := 6) (ci := 1) (kf := 0) rfl rfl (by decide) (hB _ _ rfl) rfl (by decide) (pc' := 64) rfl ?_
      refine tt_getI hV (tg := 0) (ci := 9) (kf := 1) rfl rfl (by decide) (hB _ _ rfl) rfl (by decide) (pc' := 67) rfl ?_
      obtain ⟨g3, h⟩ := h
      obtain ⟨g4, h⟩ := h
      refine tt_icmp_lt hV rfl g3 g4 (pt := 89) (by decide) (pf := 70) rfl (fun hc => ?_) (fun hc => ?_)
      · replace h := h.1 hc
        refine r_aload_n hV rfl rfl (pc' := 90) rfl ?_
        refine r_dup hV rfl rfl (pc' := 91) rfl ?_
        refine tt_getI hV (tg := 0) (ci := 1) (kf := 3) rfl rfl (by decide) (hB _ _ rfl) rfl (by decide) (pc' := 94) rfl ?_
        refine tt_iconst hV rfl (pc' := 95) rfl ?_
        refine tt_iadd hV rfl (pc' := 96) rfl ?_
        refine tt_putI hV (tg := 0) (ci := 1) (kf := 3) rfl rfl (Or.inl rfl) (hB _ _ rfl) rfl (by decide) rfl (pc' := 99) rfl ?_
        refine tt_iinc2 hV rfl rfl (pc' := 102) rfl ?_
        refine r_goto hV rfl (pc' := 36) (by decide) ?_
        exact h
      · replace h := h.2 (Int.not_lt.mp hc)
        refine r_aload_n hV rfl rfl (pc' := 71) rfl ?_
        obtain ⟨v71, m71, h, hr⟩ := h
        refine tt_cv0I hV rfl rfl rfl (Wd_obj hcs.1) (Nat.le_of_ble_eq_true rfl) (Nat.le_of_ble_eq_true rfl) rfl hr (pc' := 74) rfl ?_
        obtain ⟨g5, h⟩ := h
        refine tt_if_eq hV rfl g5 (pt := 81) (by decide) (pf := 77) rfl (fun hc => ?_) (fun hc => ?_)
        · replace h := h.1 hc
          refine r_aload_n hV rfl rfl (pc' := 82) rfl ?_
          refine tt_getR hV (tg := 6) (ci := 1) (kf := 0) rfl rfl (by decide) (hB _ _ rfl) rfl (by decide) (pc' := 85) rfl ?_
          refine tt_getI hV (tg := 0) (ci := 9) (kf := 1) rfl rfl (by decide) (hB _ _ rfl) rfl (by decide) (pc' := 88) rfl ?_
          exact rq_ret (q := mI13) rfl rfl rfl h
        · replace h := h.2 hc
          refine tt_iconst hV rfl (pc' := 78) rfl ?_
          refine r_goto hV rfl (pc' := 88) (by decide) ?_
          exact rq_ret (q := mI13) rfl rfl rfl h
    · replace h := h.2 (Decidable.not_not.mp hc)
      refine r_aload_n hV rfl rfl (pc' := 52) rfl ?_
      refine tt_getI hV (tg := 0) (ci := 1) (kf := 3) rfl rfl (by decide) (hB _ _ rfl) rfl (by decide) (pc' := 55) rfl ?_
      exact rq_ret (q := mI13) rfl rfl rfl h
theorem R_readClausew {X : Cx} {d : Nat} {c : Nat} {m : Mm} {Q : Int → Mm → Prop} (hB : Bsh X.2.2.1) (hc : cO c) (hB2 : X.2.2.1.length ≤ 1000000) (h : B_behindBlanks X d (m 3 3) m (fun v9 m9 => B_signAt X d v9 (up m9 3 3 v9) (fun v23 m23 => (-2147483648 ≤ v23 ∧ v23 < 2147483648) ∧ (v23 ≠ 0 → (0 ≤ v23 ∧ v23 < 65536) ∧ Z_indexOf X d 1000010 v23 m23 (fun v39 m39 => (-2147483648 ≤ v39 ∧ v39 < 2147483648) ∧ (v39 < 0 → Q 0 m39) ∧ (0 ≤ v39 → (0 ≤ v39 ∧ v39 < 4) ∧ (-2147483648 ≤ (m39 5 v39) ∧ (m39 5 v39) < 2147483648) ∧ (-2147483648 ≤ ((gx xMOST_OF_KIND v39)) ∧ ((gx xMOST_OF_KIND v39)) < 2147483648) ∧ (m39 5 v39 < (gx xMOST_OF_KIND v39) → (0 ≤ v39 ∧ v39 < 5) ∧ (0 ≤ v39 + 1 ∧ v39 + 1 < 5) ∧ ((0 : Int) ≤ (gx xFIRST v39) ∧ (gx xFIRST v39) + ((gx xFIRST (v39 + 1)) - (gx xFIRST v39)) ≤ 14) ∧ ((0 : Int) ≤ 0 ∧ 0 + ((gx xFIRST (v39 + 1)) - (gx xFIRST v39)) ≤ 5) ∧ ((0 : Int) ≤ (gx xFIRST (v39 + 1)) - (gx xFIRST v39)) ∧ R_readItems X d v39 (upR (up (up m39 5 v39 (m39 5 v39 + 1)) 3 3 (m39 3 3 + 1)) 4 0 (0 + ((gx xFIRST (v39 + 1)) - (gx xFIRST v39))) (fun j => (gx xUSUAL (j - 0 + ((gx xFIRST v39)))))) (fun v114 m114 => (-2147483648 ≤ v114 ∧ v114 < 2147483648) ∧ (v114 ≠ 0 → (v39 ≠ 0 → (v39 ≠ 1 → (v39 ≠ 2 → K_addMember X d c m114 (fun m186 => Q 1 m186)) ∧ (v39 = 2 → K_addIce X d c (m114 4 0) m114 (fun m175 => Q 1 m175))) ∧ (v39 = 1 → K_addBump X d c m114 (fun m157 => Q 1 m157))) ∧ (v39 = 0 → Q 1 (upR m114 (c + 1) 0 (0 + 5) (fun j => (m114 4 (j - 0 + 0)))))) ∧ (v114 = 0 → Q 0 m114))) ∧ ((gx xMOST_OF_KIND v39) ≤ m39 5 v39 → Q 0 m39)))) ∧ (v23 = 0 → Q 0 m23)))) : R_readClause X (d + 1) c m Q := by
  unfold R_readClause
  have hcs := csh_of hB hc
  have hV : Clo (gP X.1 X.2.1) (d + 1) 14 4 false (Rq (gP X.1 X.2.1) (d + 1) 14 X.2.2.1 X.2.2.2 Q) := Rq_clo (q := mI14) rfl
  refine r_aload_n hV rfl rfl (pc' := 1) rfl ?_
  refine r_aload_n hV rfl rfl (pc' := 2) rfl ?_
  refine tt_getR hV (tg := 6) (ci := 1) (kf := 0) rfl rfl (by decide) (hB _ _ rfl) rfl (by decide) (pc' := 5) rfl ?_
  refine r_aload_n hV rfl rfl (pc' := 6) rfl ?_
  refine tt_getI hV (tg := 0) (ci := 1) (kf := 3) rfl rfl (by decide) (hB _ _ rfl) rfl (by decide) (pc' := 9) rfl ?_
  obtain ⟨v9, m9, h, hr⟩ := h
  refine tt_cv1I hV rfl rfl rfl (Wd_obj (hB _ _ rfl)) (Nat.le_of_ble_eq_true rfl) (Nat.le_of_ble_eq_true rfl) rfl hr (pc' := 12) rfl ?_
  refine tt_putI hV (tg := 0) (ci := 1) (kf := 3) rfl rfl (Or.inl rfl) (hB _ _ rfl) rfl (by decide) rfl (pc' := 15) rfl ?_
  refine r_aload_n hV rfl rfl (pc' := 16) rfl ?_
  refine tt_getR hV (tg := 6) (ci := 1) (kf := 0) rfl rfl (by decide) (hB _ _ rfl) rfl (by decide) (pc' := 19) rfl ?_
  refine r_aload_n hV rfl rfl (pc' := 20) rfl ?_
  refine tt_getI hV (tg := 0) (ci := 1) (kf := 3) rfl rfl (by decide) (hB _ _ rfl) rfl (by decide) (pc' := 23) rfl ?_
  refine vtI (y := v9) (up_same _ _ _ _) ?_
  obtain ⟨v23, m23, h, hr⟩ := h
  refine tt_cv1I hV rfl rfl rfl (Wd_obj (hB _ _ rfl)) (Nat.le_of_ble_eq_true rfl) (Nat.le_of_ble_eq_true rfl) rfl hr (pc' := 26) rfl ?_
  refine tt_istore2 hV rfl rfl (pc' := 27) rfl ?_
  refine r_iload_n hV rfl rfl (pc' := 28) rfl ?_
  obtain ⟨g1, h⟩ := h
  refine tt_if_ne hV rfl g1 (pt := 35) (by decide) (pf := 31) rfl (fun hc => ?_) (fun hc => ?_)
  · replace h := h.1 hc
    refine r_ldcS hV rfl rfl (pc' := 37) rfl ?_
    refine r_iload_n hV rfl rfl (pc' := 38) rfl ?_
    obtain ⟨g2, h⟩ := h
    refine tt_i2c hV rfl g2 (pc' := 39) rfl ?_
    obtain ⟨v39, m39, h, hr⟩ := h
    refine q_cx1I hV rfl rfl rfl hB2 rfl rfl (Nat.le_of_ble_eq_true rfl) (Nat.le_of_ble_eq_true rfl) rfl hr (pc' := 42) rfl ?_
    refine tt_istore3 hV rfl rfl (pc' := 43) rfl ?_
    refine r_iload_n hV rfl rfl (pc' := 44) rfl ?_
    obtain ⟨g3, h⟩ := h
    refine tt_if_lt hV rfl g3 (pt := 61) (by decide) (pf := 47) rfl (fun hc => ?_) (fun hc => ?_)
    · replace h := h.1 hc
      refine tt_iconst hV rfl (pc' := 62) rfl ?_
      exact rq_ret (q := mI14) rfl rfl rfl h
    · replace h := h.2 (Int.not_lt.mp hc)
      refine r_aload_n hV rfl rfl (pc' := 48) rfl ?_
      refine tt_getR hV (tg := 6) (ci := 1) (kf := 2) rfl rfl (by decide) (hB _ _ rfl) rfl (by decide) (pc' := 51) rfl ?_
      refine r_iload_n hV rfl rfl (pc' := 52) rfl ?_
      obtain ⟨g4, h⟩ := h
      refine q_iald hV rfl (hB _ _ rfl) (Nat.le_of_ble_eq_true rfl) rfl g4 (pc' := 53) rfl ?_
      refine r_gets hV rfl rfl rfl (pc' := 56) rfl ?_
      refine r_iload_n hV rfl rfl (pc' := 57) rfl ?_
      refine q_ieald hV (a := 1000002) (T := xMOST_OF_KIND) (K := 4) rfl hB2 rfl rfl rfl rfl g4 rfl (Nat.le_of_ble_eq_true rfl) (pc' := 58) rfl ?_
      obtain ⟨g5, h⟩ := h
      obtain ⟨g6, h⟩ := h
      refine tt_icmp_lt hV rfl g5 g6 (pt := 63) (by decide) (pf := 61) rfl (fun hc => ?_) (fun hc => ?_)
      · replace h := h.1 hc
        refine r_aload_n hV rfl rfl (pc' := 64) rfl ?_
        refine tt_getR hV (tg := 6) (ci := 1) (kf := 2) rfl rfl (by decide) (hB _ _ rfl) rfl (by decide) (pc' := 67) rfl ?_
        refine r_iload_n hV rfl rfl (pc' := 68) rfl ?_
        refine r_dup2 hV rfl rfl rfl (pc' := 69) rfl ?_
        refine q_iald hV rfl (hB _ _ rfl) (Nat.le_of_ble_eq_true rfl) rfl g4 (pc' := 70) rfl ?_
        refine tt_iconst hV rfl (pc' := 71) rfl ?_
        refine tt_iadd hV rfl (pc' := 72) rfl ?_
        refine q_iast hV rfl (hB _ _ rfl) (Nat.le_of_ble_eq_true rfl) rfl g4 (pc' := 73) rfl ?_
        refine r_aload_n hV rfl rfl (pc' := 74) rfl ?_
        refine r_dup hV rfl rfl (pc' := 75) rfl ?_
        refine tt_getI hV (tg := 0) (ci := 1) (kf := 3) rfl rfl (by decide) (hB _ _ rfl) rfl (by decide) (pc' := 78) rfl ?_
        refine vtI (y := m39 3 3) (up_ne (Or.inl (by decide))) ?_
        refine tt_iconst hV rfl (pc' := 79) rfl ?_
        refine tt_iadd hV rfl (pc' := 80) rfl ?_
        refine tt_putI hV (tg := 0) (ci := 1) (kf := 3) rfl rfl (Or.inl rfl) (hB _ _ rfl) rfl (by decide) rfl (pc' := 83) rfl ?_
        refine r_gets hV rfl rfl rfl (pc' := 86) rfl ?_
        refine r_gets hV rfl rfl rfl (pc' := 89) rfl ?_
        refine r_iload_n hV rfl rfl (pc' := 90) rfl ?_
        obtain ⟨g7, h⟩ := h
        refine q_ieald hV (a := 1000003) (T := xFIRST) (K := 5) rfl hB2 rfl rfl rfl rfl g7 rfl (Nat.le_of_ble_eq_true rfl) (pc' := 91) rfl ?_
        refine r_aload_n hV rfl rfl (pc' := 92) rfl ?_
        refine tt_getR hV (tg := 6) (ci := 1) (kf := 1) rfl rfl (by decide) (hB _ _ rfl) rfl (by decide) (pc' := 95) rfl ?_
        refine tt_iconst hV rfl (pc' := 96) rfl ?_
        refine r_gets hV rfl rfl rfl (pc' := 99) rfl ?_
        refine r_iload_n hV rfl rfl (pc' := 100) rfl ?_
        refine tt_iconst hV rfl (pc' := 101) rfl ?_
        refine tt_iadd hV rfl (pc' := 102) rfl ?_
        obtain ⟨g8, h⟩ := h
        refine q_ieald hV (a := 1000003) (T := xFIRST) (K := 5) rfl hB2 rfl rfl rfl rfl g8 rfl (Nat.le_of_ble_eq_true rfl) (pc' := 103) rfl ?_
        refine r_gets hV rfl rfl rfl (pc' := 106) rfl ?_
        refine r_iload_n hV rfl rfl (pc' := 107) rfl ?_
        refine q_ieald hV (a := 1000003) (T := xFIRST) (K := 5) rfl hB2 rfl rfl rfl rfl g7 rfl (Nat.le_of_ble_eq_true rfl) (pc' := 108) rfl ?_
        refine tt_isub hV rfl (pc' := 109) rfl ?_
        obtain ⟨g9, h⟩ := h
        obtain ⟨g10, h⟩ := h
        obtain ⟨g11, h⟩ := h
        refine q_copyX hV (a0 := 1000001) (T := xUSUAL) (K := 14) rfl rfl rfl hB2 rfl rfl rfl rfl (hB _ _ rfl) (Nat.le_of_ble_eq_true rfl) rfl g9 g10 g11 rfl (Nat.le_of_ble_eq_true rfl) (Nat.le_of_ble_eq_true rfl) (pc' := 112) rfl ?_
        refine r_aload_n hV rfl rfl (pc' := 113) rfl ?_
        refine r_iload_n hV rfl rfl (pc' := 114) rfl ?_
        obtain ⟨v114, m114, h, hr⟩ := h
        refine tt_cv1I hV rfl rfl rfl (Wd_obj (hB _ _ rfl)) (Nat.le_of_ble_eq_true rfl) (Nat.le_of_ble_eq_true rfl) rfl hr (pc' := 117) rfl ?_
        obtain ⟨g12, h⟩ := h
        refine tt_if_ne hV rfl g12 (pt := 122) (by decide) (pf := 120) rfl (fun hc => ?_) (fun hc => ?_)
        · replace h := h.1 hc
          refine r_iload_n hV rfl rfl (pc' := 123) rfl ?_
          refine tt_if_ne hV rfl g3 (pt := 147) (by decide) (pf := 126) rfl (fun hc => ?_) (fun hc => ?_)
          · replace h := h.1 hc
            refine r_iload_n hV rfl rfl (pc' := 148) rfl ?_
            refine tt_iconst hV rfl (pc' := 149) rfl ?_
            refine tt_icmp_ne hV rfl g3 (by decide) (pt := 163) (by decide) (pf := 152) rfl (fun hc => ?_) (fun hc => ?_)
            · replace h := h.1 hc
              refine r_iload_n hV rfl rfl (pc' := 164) rfl ?_
              refine tt_iconst hV rfl (pc' := 165) rfl ?_
              refine tt_icmp_ne hV rfl g3 (by decide) (pt := 181) (by decide) (pf := 168) rfl (fun hc => ?_) (fun hc => ?_)
              · replace h := h.1 hc
                refine r_aload_n hV rfl rfl (pc' := 182) rfl ?_
                refine r_aload_n hV rfl rfl (pc' := 183) rfl ?_
                refine tt_getR hV (tg := 6) (ci := 1) (kf := 1) rfl rfl (by decide) (hB _ _ rfl) rfl (by decide) (pc' := 186) rfl ?_
                obtain ⟨m186, h, hr⟩ := h
                refine tt_cv1U hV rfl rfl rfl (Wd_obj hcs.1) (Nat.le_of_ble_eq_true rfl) (Nat.le_of_ble_eq_true rfl) rfl hr (pc' := 189) rfl ?_
                refine tt_iconst hV rfl (pc' := 190) rfl ?_
                exact rq_ret (q := mI14) rfl rfl rfl h
              · replace h := h.2 (Decidable.not_not.mp hc)
                refine r_aload_n hV rfl rfl (pc' := 169) rfl ?_
                refine r_aload_n hV rfl rfl (pc' := 170) rfl ?_
                refine tt_getR hV (tg := 6) (ci := 1) (kf := 1) rfl rfl (by decide) (hB _ _ rfl) rfl (by decide) (pc' := 173) rfl ?_
                refine tt_iconst hV rfl (pc' := 174) rfl ?_
                refine q_iald hV rfl (hB _ _ rfl) (Nat.le_of_ble_eq_true rfl) rfl (by decide) (pc' := 175) rfl ?_
                obtain ⟨m175, h, hr⟩ := h
                refine tt_cv1U hV rfl rfl rfl (Wd_obj hcs.1) (Nat.le_of_ble_eq_true rfl) (Nat.le_of_ble_eq_true rfl) rfl hr (pc' := 178) rfl ?_
                refine r_goto hV rfl (pc' := 189) (by decide) ?_
                refine tt_iconst hV rfl (pc' := 190) rfl ?_
                exact rq_ret (q := mI14) rfl rfl rfl h
            · replace h := h.2 (Decidable.not_not.mp hc)
              refine r_aload_n hV rfl rfl (pc' := 153) rfl ?_
              refine r_aload_n hV rfl rfl (pc' := 154) rfl ?_
              refine tt_getR hV (tg := 6) (ci := 1) (kf := 1) rfl rfl (by decide) (hB _ _ rfl) rfl (by decide) (pc' := 157) rfl ?_
              obtain ⟨m157, h, hr⟩ := h
              refine tt_cv1U hV rfl rfl rfl (Wd_obj hcs.1) (Nat.le_of_ble_eq_true rfl) (Nat.le_of_ble_eq_true rfl) rfl hr (pc' := 160) rfl ?_
              refine r_goto hV rfl (pc' := 189) (by decide) ?_
              refine tt_iconst hV rfl (pc' := 190) rfl ?_
              exact rq_ret (q := mI14) rfl rfl rfl h
          · replace h := h.2 (Decidable.not_not.mp hc)
            refine r_aload_n hV rfl rfl (pc' := 127) rfl ?_
            refine tt_getR hV (tg := 6) (ci := 1) (kf := 1) rfl rfl (by decide) (hB _ _ rfl) rfl (by decide) (pc' := 130) rfl ?_
            refine tt_iconst hV rfl (pc' := 131) rfl ?_
            refine r_aload_n hV rfl rfl (pc' := 132) rfl ?_
            refine tt_getR hV (tg := 10) (ci := 0) (kf := 0) rfl rfl (by decide) hcs.1 rfl (by decide) (pc' := 135) rfl ?_
            refine tt_iconst hV rfl (pc' := 136) rfl ?_
            refine r_aload_n hV rfl rfl (pc' := 137) rfl ?_
            refine tt_getR hV (tg := 10) (ci := 0) (kf := 0) rfl rfl (by decide) hcs.1 rfl (by decide) (pc' := 140) rfl ?_
            refine q_alen hV rfl hcs.2.1 (by decide) (z := 5) rfl (pc' := 141) rfl ?_
            refine q_copy hV rfl rfl rfl (hB _ _ rfl) hcs.2.1 (Nat.le_of_ble_eq_true rfl) (Nat.le_of_ble_eq_true rfl) rfl rfl (by decide) (by decide) (by decide) (Nat.le_of_ble_eq_true rfl) (pc' := 144) rfl ?_
            refine r_goto hV rfl (pc' := 189) (by decide) ?_
            refine tt_iconst hV rfl (pc' := 190) rfl ?_
            exact rq_ret (q := mI14) rfl rfl rfl h
        · replace h := h.2 (Decidable.not_not.mp hc)
          refine tt_iconst hV rfl (pc' := 121) rfl ?_
          exact rq_ret (q := mI14) rfl rfl rfl h
      · replace h := h.2 (Int.not_lt.mp hc)
        refine tt_iconst hV rfl (pc' := 62) rfl ?_
        exact rq_ret (q := mI14) rfl rfl rfl h
  · replace h := h.2 (Decidable.not_not.mp hc)
    refine tt_iconst hV rfl (pc' := 32) rfl ?_
    refine r_goto hV rfl (pc' := 42) (by decide) ?_
    refine tt_istore3 hV rfl rfl (pc' := 43) rfl ?_
    refine r_iload_n hV rfl rfl (pc' := 44) rfl ?_
    refine tt_if_lt hV rfl (by decide) (pt := 61) (by decide) (pf := 47) rfl (fun hc => ?_) (fun hc => absurd (by decide) hc)
    clear hc
    refine tt_iconst hV rfl (pc' := 62) rfl ?_
    exact rq_ret (q := mI14) rfl rfl rfl h
theorem R_readItemsw {X : Cx} {d : Nat} {x : Int} {m : Mm} {Q : Int → Mm → Prop} (hB : Bsh X.2.2.1) (h : R_readItems_4 X (d + 1) x 0 0 none none m Q) : R_readItems X (d + 1) x m Q := by
  unfold R_readItems
  have hV : Clo (gP X.1 X.2.1) (d + 1) 15 6 false (Rq (gP X.1 X.2.1) (d + 1) 15 X.2.2.1 X.2.2.2 Q) := Rq_clo (q := mI15) rfl
  refine tt_iconst hV rfl (pc' := 1) rfl ?_
  refine tt_istore2 hV rfl rfl (pc' := 2) rfl ?_
  refine tt_iconst hV rfl (pc' := 3) rfl ?_
  refine tt_istore3 hV rfl rfl (pc' := 4) rfl ?_
  exact h
theorem R_readItems_4w {X : Cx} {d : Nat} {x : Int} {l2 : Int} {l3 : Int} {o4 : Option Int} {o5 : Option Int} {m : Mm} {Q : Int → Mm → Prop} (hB : Bsh X.2.2.1) (h : (-2147483648 ≤ l3 ∧ l3 < 2147483648) ∧ (240 < l3 → Q 0 m) ∧ (l3 ≤ 240 → B_behindBlanks X d (m 3 3) m (fun v20 m20 => B_signAt X d v20 (up m20 3 3 v20) (fun v34 m34 => (-2147483648 ≤ v34 ∧ v34 < 2147483648) ∧ (v34 = 0 → Q 1 m34) ∧ (v34 ≠ 0 → (v34 ≠ 59 → R_itemOf X d x v34 m34 (fun v56 m56 => (-2147483648 ≤ v56 ∧ v56 < 2147483648) ∧ (v56 = -1 → Q 0 m56) ∧ (v56 ≠ -1 → ((iA ((iSr l2 v56)) 1) ≠ 1 → R_readNumber X d x v56 (up m56 3 3 (m56 3 3 + 1)) (fun v100 m100 => (-2147483648 ≤ v100 ∧ v100 < 2147483648) ∧ (v100 ≠ 0 → R_readItems_4 X (d + 1) x ((iO l2 ((iSl 1 v56)))) (l3 + 1) (some v34) (some v56) m100 Q) ∧ (v100 = 0 → Q 0 m100))) ∧ ((iA ((iSr l2 v56)) 1) = 1 → Q 0 m56)))) ∧ (v34 = 59 → Q 1 m34)))))) : R_readItems_4 X (d + 1) x l2 l3 o4 o5 m Q := by
  unfold R_readItems_4
  have hV : Clo (gP X.1 X.2.1) (d + 1) 15 6 false (Rq (gP X.1 X.2.1) (d + 1) 15 X.2.2.1 X.2.2.2 Q) := Rq_clo (q := mI15) rfl
  refine r_iload_n hV rfl rfl (pc' := 5) rfl ?_
  refine tt_sipush hV rfl (by decide) (pc' := 8) rfl ?_
  obtain ⟨g1, h⟩ := h
  refine tt_icmp_gt hV rfl g1 (by decide) (pt := 114) (by decide) (pf := 11) rfl (fun hc => ?_) (fun hc => ?_)
  · replace h := h.1 hc
    refine tt_iconst hV rfl (pc' := 115) rfl ?_
    exact rq_ret (q := mI15) rfl rfl rfl h
  · replace h := h.2 (Int.not_lt.mp hc)
    refine r_aload_n hV rfl rfl (pc' := 12) rfl ?_
    refine r_aload_n hV rfl rfl (pc' := 13) rfl ?_
    refine tt_getR hV (tg := 6) (ci := 1) (kf := 0) rfl rfl (by decide) (hB _ _ rfl) rfl (by decide) (pc' := 16) rfl ?_
    refine r_aload_n hV rfl rfl (pc' := 17) rfl ?_
    refine tt_getI hV (tg := 0) (ci := 1) (kf := 3) rfl rfl (by decide) (hB _ _ rfl) rfl (by decide) (pc' := 20) rfl ?_
    obtain ⟨v20, m20, h, hr⟩ := h
    refine tt_cv1I hV rfl rfl rfl (Wd_obj (hB _ _ rfl)) (Nat.le_of_ble_eq_true rfl) (Nat.le_of_ble_eq_true rfl) rfl hr (pc' := 23) rfl ?_
    refine tt_putI hV (tg := 0) (ci := 1) (kf := 3) rfl rfl (Or.inl rfl) (hB _ _ rfl) rfl (by decide) rfl (pc' := 26) rfl ?_
    refine r_aload_n hV rfl rfl (pc' := 27) rfl ?_
    refine tt_getR hV (tg := 6) (ci := 1) (kf := 0) rfl rfl (by decide) (hB _ _ rfl) rfl (by decide) (pc' := 30) rfl ?_
    refine r_aload_n hV rfl rfl (pc' := 31) rfl ?_
    refine tt_getI hV (tg := 0) (ci := 1) (kf := 3) rfl rfl (by decide) (hB _ _ rfl) rfl (by decide) (pc' := 34) rfl ?_
    refine vtI (y := v20) (up_same _ _ _ _) ?_
    obtain ⟨v34, m34, h, hr⟩ := h
    refine tt_cv1I hV rfl rfl rfl (Wd_obj (hB _ _ rfl)) (Nat.le_of_ble_eq_true rfl) (Nat.le_of_ble_eq_true rfl) rfl hr (pc' := 37) rfl ?_
    refine tt_istore4 hV rfl rfl (pc' := 39) rfl ?_
    refine r_iload hV rfl rfl (pc' := 41) rfl ?_
    obtain ⟨g2, h⟩ := h
    refine tt_if_eq hV rfl g2 (pt := 51) (by decide) (pf := 44) rfl (fun hc => ?_) (fun hc => ?_)
    · replace h := h.1 hc
      refine tt_iconst hV rfl (pc' := 52) rfl ?_
      exact rq_ret (q := mI15) rfl rfl rfl h
    · replace h := h.2 hc
      refine r_iload hV rfl rfl (pc' := 46) rfl ?_
      refine tt_bipush hV rfl (by decide) (pc' := 48) rfl ?_
      refine tt_icmp_ne hV rfl g2 (by decide) (pt := 53) (by decide) (pf := 51) rfl (fun hc => ?_) (fun hc => ?_)
      · replace h := h.1 hc
        refine r_iload_n hV rfl rfl (pc' := 54) rfl ?_
        refine r_iload hV rfl rfl (pc' := 56) rfl ?_
        obtain ⟨v56, m56, h, hr⟩ := h
        refine tt_cs2I hV rfl rfl rfl (Nat.le_of_ble_eq_true rfl) (Nat.le_of_ble_eq_true rfl) rfl hr (pc' := 59) rfl ?_
        refine tt_istore5 hV rfl rfl (pc' := 61) rfl ?_
        refine r_iload hV rfl rfl (pc' := 63) rfl ?_
        refine tt_iconst hV rfl (pc' := 64) rfl ?_
        obtain ⟨g3, h⟩ := h
        refine tt_icmp_eq hV rfl g3 (by decide) (pt := 77) (by decide) (pf := 67) rfl (fun hc => ?_) (fun hc => ?_)
        · replace h := h.1 hc
          refine tt_iconst hV rfl (pc' := 78) rfl ?_
          exact rq_ret (q := mI15) rfl rfl rfl h
        · replace h := h.2 hc
          refine r_iload_n hV rfl rfl (pc' := 68) rfl ?_
          refine r_iload hV rfl rfl (pc' := 70) rfl ?_
          refine tt_ishr hV rfl (pc' := 71) rfl ?_
          refine tt_iconst hV rfl (pc' := 72) rfl ?_
          refine tt_iand hV rfl (pc' := 73) rfl ?_
          refine tt_iconst hV rfl (pc' := 74) rfl ?_
          refine tt_icmp_ne hV rfl (i32R _) (by decide) (pt := 79) (by decide) (pf := 77) rfl (fun hc => ?_) (fun hc => ?_)
          · replace h := h.1 hc
            refine r_iload_n hV rfl rfl (pc' := 80) rfl ?_
            refine tt_iconst hV rfl (pc' := 81) rfl ?_
            refine r_iload hV rfl rfl (pc' := 83) rfl ?_
            refine tt_ishl hV rfl (pc' := 84) rfl ?_
            refine tt_ior hV rfl (pc' := 85) rfl ?_
            refine tt_istore2 hV rfl rfl (pc' := 86) rfl ?_
            refine r_aload_n hV rfl rfl (pc' := 87) rfl ?_
            refine r_dup hV rfl rfl (pc' := 88) rfl ?_
            refine tt_getI hV (tg := 0) (ci := 1) (kf := 3) rfl rfl (by decide) (hB _ _ rfl) rfl (by decide) (pc' := 91) rfl ?_
            refine tt_iconst hV rfl (pc' := 92) rfl ?_
            refine tt_iadd hV rfl (pc' := 93) rfl ?_
            refine tt_putI hV (tg := 0) (ci := 1) (kf := 3) rfl rfl (Or.inl rfl) (hB _ _ rfl) rfl (by decide) rfl (pc' := 96) rfl ?_
            refine r_aload_n hV rfl rfl (pc' := 97) rfl ?_
            refine r_iload_n hV rfl rfl (pc' := 98) rfl ?_
            refine r_iload hV rfl rfl (pc' := 100) rfl ?_
            obtain ⟨v100, m100, h, hr⟩ := h
            refine tt_cv2I hV rfl rfl rfl (Wd_obj (hB _ _ rfl)) (Nat.le_of_ble_eq_true rfl) (Nat.le_of_ble_eq_true rfl) rfl hr (pc' := 103) rfl ?_
            obtain ⟨g4, h⟩ := h
            refine tt_if_ne hV rfl g4 (pt := 108) (by decide) (pf := 106) rfl (fun hc => ?_) (fun hc => ?_)
            · replace h := h.1 hc
              refine tt_iinc3 hV rfl rfl (pc' := 111) rfl ?_
              refine r_goto hV rfl (pc' := 4) (by decide) ?_
              exact h
            · replace h := h.2 (Decidable.not_not.mp hc)
              refine tt_iconst hV rfl (pc' := 107) rfl ?_
              exact rq_ret (q := mI15) rfl rfl rfl h
          · replace h := h.2 (Decidable.not_not.mp hc)
            refine tt_iconst hV rfl (pc' := 78) rfl ?_
            exact rq_ret (q := mI15) rfl rfl rfl h
      · replace h := h.2 (Decidable.not_not.mp hc)
        refine tt_iconst hV rfl (pc' := 52) rfl ?_
        exact rq_ret (q := mI15) rfl rfl rfl h
theorem R_itemOfw {X : Cx} {d : Nat} {x : Int} {y : Int} {m : Mm} {Q : Int → Mm → Prop} (hB : Bsh X.2.2.1) (hB2 : X.2.2.1.length ≤ 1000000) (h : (0 ≤ x ∧ x < 5) ∧ R_itemOf_6 X (d + 1) x y ((gx xFIRST x)) m Q) : R_itemOf X (d + 1) x y m Q := by
  unfold R_itemOf
  have hV : Clo (gP X.1 X.2.1) (d + 1) 16 3 false (Rq (gP X.1 X.2.1) (d + 1) 16 X.2.2.1 X.2.2.2 Q) := Rq_clo (q := mI16) rfl
  refine r_gets hV rfl rfl rfl (pc' := 3) rfl ?_
  refine r_iload_n hV rfl rfl (pc' := 4) rfl ?_
  obtain ⟨g1, h⟩ := h
  refine q_ieald hV (a := 1000003) (T := xFIRST) (K := 5) rfl hB2 rfl rfl rfl rfl g1 rfl (Nat.le_of_ble_eq_true rfl) (pc' := 5) rfl ?_
  refine tt_istore2 hV rfl rfl (pc' := 6) rfl ?_
  exact h
theorem R_itemOf_6w {X : Cx} {d : Nat} {x : Int} {y : Int} {l2 : Int} {m : Mm} {Q : Int → Mm → Prop} (hB : Bsh X.2.2.1) (hB2 : X.2.2.1.length ≤ 1000000) (h : (0 ≤ x + 1 ∧ x + 1 < 5) ∧ (-2147483648 ≤ l2 ∧ l2 < 2147483648) ∧ (-2147483648 ≤ ((gx xFIRST (x + 1))) ∧ ((gx xFIRST (x + 1))) < 2147483648) ∧ ((gx xFIRST (x + 1)) ≤ l2 → Q (-1) m) ∧ (l2 < (gx xFIRST (x + 1)) → Z_charAt X d 1000011 l2 m (fun v20 m20 => (-2147483648 ≤ v20 ∧ v20 < 2147483648) ∧ (-2147483648 ≤ y ∧ y < 2147483648) ∧ (v20 ≠ y → R_itemOf_6 X (d + 1) x y (l2 + 1) m20 Q) ∧ (v20 = y → (0 ≤ x ∧ x < 5) ∧ Q (l2 - (gx xFIRST x)) m20)))) : R_itemOf_6 X (d + 1) x y l2 m Q := by
  unfold R_itemOf_6
  have hV : Clo (gP X.1 X.2.1) (d + 1) 16 3 false (Rq (gP X.1 X.2.1) (d + 1) 16 X.2.2.1 X.2.2.2 Q) := Rq_clo (q := mI16) rfl
  refine r_iload_n hV rfl rfl (pc' := 7) rfl ?_
  refine r_gets hV rfl rfl rfl (pc' := 10) rfl ?_
  refine r_iload_n hV rfl rfl (pc' := 11) rfl ?_
  refine tt_iconst hV rfl (pc' := 12) rfl ?_
  refine tt_iadd hV rfl (pc' := 13) rfl ?_
  obtain ⟨g2, h⟩ := h
  refine q_ieald hV (a := 1000003) (T := xFIRST) (K := 5) rfl hB2 rfl rfl rfl rfl g2 rfl (Nat.le_of_ble_eq_true rfl) (pc' := 14) rfl ?_
  obtain ⟨g3, h⟩ := h
  obtain ⟨g4, h⟩ := h
  refine tt_icmp_ge hV rfl g3 g4 (pt := 41) (by decide) (pf := 17) rfl (fun hc => ?_) (fun hc => ?_)
  · replace h := h.1 hc
    refine tt_iconst hV rfl (pc' := 42) rfl ?_
    exact rq_ret (q := mI16) rfl rfl rfl h
  · replace h := h.2 (Int.not_le.mp hc)
    refine r_ldcS hV rfl rfl (pc' := 19) rfl ?_
    refine r_iload_n hV rfl rfl (pc' := 20) rfl ?_
    obtain ⟨v20, m20, h, hr⟩ := h
    refine q_cx1I hV rfl rfl rfl hB2 rfl rfl (Nat.le_of_ble_eq_true rfl) (Nat.le_of_ble_eq_true rfl) rfl hr (pc' := 23) rfl ?_
    refine r_iload_n hV rfl rfl (pc' := 24) rfl ?_
    obtain ⟨g5, h⟩ := h
    obtain ⟨g6, h⟩ := h
    refine tt_icmp_ne hV rfl g5 g6 (pt := 35) (by decide) (pf := 27) rfl (fun hc => ?_) (fun hc => ?_)
    · replace h := h.1 hc
      refine tt_iinc2 hV rfl rfl (pc' := 38) rfl ?_
      refine r_goto hV rfl (pc' := 6) (by decide) ?_
      exact h
    · replace h := h.2 (Decidable.not_not.mp hc)
      refine r_iload_n hV rfl rfl (pc' := 28) rfl ?_
      refine r_gets hV rfl rfl rfl (pc' := 31) rfl ?_
      refine r_iload_n hV rfl rfl (pc' := 32) rfl ?_
      obtain ⟨g7, h⟩ := h
      refine q_ieald hV (a := 1000003) (T := xFIRST) (K := 5) rfl hB2 rfl rfl rfl rfl g7 rfl (Nat.le_of_ble_eq_true rfl) (pc' := 33) rfl ?_
      refine tt_isub hV rfl (pc' := 34) rfl ?_
      exact rq_ret (q := mI16) rfl rfl rfl h
theorem R_readNumberw {X : Cx} {d : Nat} {x : Int} {y : Int} {m : Mm} {Q : Int → Mm → Prop} (hB : Bsh X.2.2.1) (hB2 : X.2.2.1.length ≤ 1000000) (h : B_behindBlanks X d (m 3 3) m (fun v9 m9 => B_isDigitAt X d v9 (up m9 3 3 v9) (fun v23 m23 => (-2147483648 ≤ v23 ∧ v23 < 2147483648) ∧ (v23 ≠ 0 → B_signAt X d (m23 3 3) m23 (fun v39 m39 => B_isDigitAt X d (m39 3 3 + 1) (up m39 3 3 (m39 3 3 + 1)) (fun v64 m64 => (-2147483648 ≤ v64 ∧ v64 < 2147483648) ∧ (v64 = 0 → R_readNumber_100 X (d + 1) x y (v39 - 48) m64 Q) ∧ (v64 ≠ 0 → B_signAt X d (m64 3 3) m64 (fun v82 m82 => R_readNumber_100 X (d + 1) x y (10 * v39 + v82 - 528) (up m82 3 3 (m82 3 3 + 1)) Q))))) ∧ (v23 = 0 → Q 0 m23)))) : R_readNumber X (d + 1) x y m Q := by
  unfold R_readNumber
  have hV : Clo (gP X.1 X.2.1) (d + 1) 17 5 false (Rq (gP X.1 X.2.1) (d + 1) 17 X.2.2.1 X.2.2.2 Q) := Rq_clo (q := mI17) rfl
  refine r_aload_n hV rfl rfl (pc' := 1) rfl ?_
  refine r_aload_n hV rfl rfl (pc' := 2) rfl ?_
  refine tt_getR hV (tg := 6) (ci := 1) (kf := 0) rfl rfl (by decide) (hB _ _ rfl) rfl (by decide) (pc' := 5) rfl ?_
  refine r_aload_n hV rfl rfl (pc' := 6) rfl ?_
  refine tt_getI hV (tg := 0) (ci := 1) (kf := 3) rfl rfl (by decide) (hB _ _ rfl) rfl (by decide) (pc' := 9) rfl ?_
  obtain ⟨v9, m9, h, hr⟩ := h
  refine tt_cv1I hV rfl rfl rfl (Wd_obj (hB _ _ rfl)) (Nat.le_of_ble_eq_true rfl) (Nat.le_of_ble_eq_true rfl) rfl hr (pc' := 12) rfl ?_
  refine tt_putI hV (tg := 0) (ci := 1) (kf := 3) rfl rfl (Or.inl rfl) (hB _ _ rfl) rfl (by decide) rfl (pc' := 15) rfl ?_
  refine r_aload_n hV rfl rfl (pc' := 16) rfl ?_
  refine tt_getR hV (tg := 6) (ci := 1) (kf := 0) rfl rfl (by decide) (hB _ _ rfl) rfl (by decide) (pc' := 19) rfl ?_
  refine r_aload_n hV rfl rfl (pc' := 20) rfl ?_
  refine tt_getI hV (tg := 0) (ci := 1) (kf := 3) rfl rfl (by decide) (hB _ _ rfl) rfl (by decide) (pc' := 23) rfl ?_
  refine vtI (y := v9) (up_same _ _ _ _) ?_
  obtain ⟨v23, m23, h, hr⟩ := h
  refine tt_cv1I hV rfl rfl rfl (Wd_obj (hB _ _ rfl)) (Nat.le_of_ble_eq_true rfl) (Nat.le_of_ble_eq_true rfl) rfl hr (pc' := 26) rfl ?_
  obtain ⟨g1, h⟩ := h
  refine tt_if_ne hV rfl g1 (pt := 31) (by decide) (pf := 29) rfl (fun hc => ?_) (fun hc => ?_)
  · replace h := h.1 hc
    refine r_aload_n hV rfl rfl (pc' := 32) rfl ?_
    refine tt_getR hV (tg := 6) (ci := 1) (kf := 0) rfl rfl (by decide) (hB _ _ rfl) rfl (by decide) (pc' := 35) rfl ?_
    refine r_aload_n hV rfl rfl (pc' := 36) rfl ?_
    refine tt_getI hV (tg := 0) (ci := 1) (kf := 3) rfl rfl (by decide) (hB _ _ rfl) rfl (by decide) (pc' := 39) rfl ?_
    obtain ⟨v39, m39, h, hr⟩ := h
    refine tt_cv1I hV rfl rfl rfl (Wd_obj (hB _ _ rfl)) (Nat.le_of_ble_eq_true rfl) (Nat.le_of_ble_eq_true rfl) rfl hr (pc' := 42) rfl ?_
    refine tt_bipush hV rfl (by decide) (pc' := 44) rfl ?_
    refine tt_isub hV rfl (pc' := 45) rfl ?_
    refine tt_istore3 hV rfl rfl (pc' := 46) rfl ?_
    refine r_aload_n hV rfl rfl (pc' := 47) rfl ?_
    refine r_dup hV rfl rfl (pc' := 48) rfl ?_
    refine tt_getI hV (tg := 0) (ci := 1) (kf := 3) rfl rfl (by decide) (hB _ _ rfl) rfl (by decide) (pc' := 51) rfl ?_
    refine tt_iconst hV rfl (pc' := 52) rfl ?_
    refine tt_iadd hV rfl (pc' := 53) rfl ?_
    refine tt_putI hV (tg := 0) (ci := 1) (kf := 3) rfl rfl (Or.inl rfl) (hB _ _ rfl) rfl (by decide) rfl (pc' := 56) rfl ?_
    refine r_aload_n hV rfl rfl (pc' := 57) rfl ?_
    refine tt_getR hV (tg := 6) (ci := 1) (kf := 0) rfl rfl (by decide) (hB _ _ rfl) rfl (by decide) (pc' := 60) rfl ?_
    refine r_aload_n hV rfl rfl (pc' := 61) rfl ?_
    refine tt_getI hV (tg := 0) (ci := 1) (kf := 3) rfl rfl (by decide) (hB _ _ rfl) rfl (by decide) (pc' := 64) rfl ?_
    refine vtI (y := m39 3 3 + 1) (up_same _ _ _ _) ?_
    obtain ⟨v64, m64, h, hr⟩ := h
    refine tt_cv1I hV rfl rfl rfl (Wd_obj (hB _ _ rfl)) (Nat.le_of_ble_eq_true rfl) (Nat.le_of_ble_eq_true rfl) rfl hr (pc' := 67) rfl ?_
    obtain ⟨g2, h⟩ := h
    refine tt_if_eq hV rfl g2 (pt := 100) (by decide) (pf := 70) rfl (fun hc => ?_) (fun hc => ?_)
    · replace h := h.1 hc
      exact h
    · replace h := h.2 hc
      refine r_iload_n hV rfl rfl (pc' := 71) rfl ?_
      refine tt_bipush hV rfl (by decide) (pc' := 73) rfl ?_
      refine tt_imul hV rfl (pc' := 74) rfl ?_
      refine vtI (y := 10 * v39 - 480) (by clear h; omega) ?_
      refine r_aload_n hV rfl rfl (pc' := 75) rfl ?_
      refine tt_getR hV (tg := 6) (ci := 1) (kf := 0) rfl rfl (by decide) (hB _ _ rfl) rfl (by decide) (pc' := 78) rfl ?_
      refine r_aload_n hV rfl rfl (pc' := 79) rfl ?_
      refine tt_getI hV (tg := 0) (ci := 1) (kf := 3) rfl rfl (by decide) (hB _ _ rfl) rfl (by decide) (pc' := 82) rfl ?_
      obtain ⟨v82, m82, h, hr⟩ := h
      refine tt_cv1I hV rfl rfl rfl (Wd_obj (hB _ _ rfl)) (Nat.le_of_ble_eq_true rfl) (Nat.le_of_ble_eq_true rfl) rfl hr (pc' := 85) rfl ?_
      refine tt_iadd hV rfl (pc' := 86) rfl ?_
      refine vtI (y := 10 * v39 + v82 - 480) (by clear h; omega) ?_
      refine tt_bipush hV rfl (by decide) (pc' := 88) rfl ?_
      refine tt_isub hV rfl (pc' := 89) rfl ?_
      refine vtI (y := 10 * v39 + v82 - 528) (by clear h; omega) ?_
      refine tt_istore3 hV rfl rfl (pc' := 90) rfl ?_
      refine r_aload_n hV rfl rfl (pc' := 91) rfl ?_
      refine r_dup hV rfl rfl (pc' := 92) rfl ?_
      refine tt_getI hV (tg := 0) (ci := 1) (kf := 3) rfl rfl (by decide) (hB _ _ rfl) rfl (by decide) (pc' := 95) rfl ?_
      refine tt_iconst hV rfl (pc' := 96) rfl ?_
      refine tt_iadd hV rfl (pc' := 97) rfl ?_
      refine tt_putI hV (tg := 0) (ci := 1) (kf := 3) rfl rfl (Or.inl rfl) (hB _ _ rfl) rfl (by decide) rfl (pc' := 100) rfl ?_
      exact h
  · replace h := h.2 (Decidable.not_not.mp hc)
    refine tt_iconst hV rfl (pc' := 30) rfl ?_
    exact rq_ret (q := mI17) rfl rfl rfl h
theorem R_readNumber_100w {X : Cx} {d : Nat} {x : Int} {y : Int} {l3 : Int} {m : Mm} {Q : Int → Mm → Prop} (hB : Bsh X.2.2.1) (hB2 : X.2.2.1.length ≤ 1000000) (h : B_isDigitAt X d (m 3 3) m (fun v108 m108 => (-2147483648 ≤ v108 ∧ v108 < 2147483648) ∧ (v108 = 0 → (0 ≤ x ∧ x < 5) ∧ (0 ≤ (gx xFIRST x) + y ∧ (gx xFIRST x) + y < 14) ∧ (-2147483648 ≤ l3 ∧ l3 < 2147483648) ∧ (-2147483648 ≤ ((gx xLOW ((gx xFIRST x) + y))) ∧ ((gx xLOW ((gx xFIRST x) + y))) < 2147483648) ∧ (l3 < (gx xLOW ((gx xFIRST x) + y)) → Q 0 (up m108 3 3 (m108 3 3 - 1))) ∧ ((gx xLOW ((gx xFIRST x) + y)) ≤ l3 → (-2147483648 ≤ ((gx xHIGH ((gx xFIRST x) + y))) ∧ ((gx xHIGH ((gx xFIRST x) + y))) < 2147483648) ∧ (l3 ≤ (gx xHIGH ((gx xFIRST x) + y)) → (0 ≤ y ∧ y < 5) ∧ Q 1 (up m108 4 y l3)) ∧ ((gx xHIGH ((gx xFIRST x) + y)) < l3 → Q 0 (up m108 3 3 (m108 3 3 - 1))))) ∧ (v108 ≠ 0 → Q 0 m108))) : R_readNumber_100 X (d + 1) x y l3 m Q := by
  unfold R_readNumber_100
  have hV : Clo (gP X.1 X.2.1) (d + 1) 17 5 false (Rq (gP X.1 X.2.1) (d + 1) 17 X.2.2.1 X.2.2.2 Q) := Rq_clo (q := mI17) rfl
  refine r_aload_n hV rfl rfl (pc' := 101) rfl ?_
  refine tt_getR hV (tg := 6) (ci := 1) (kf := 0) rfl rfl (by decide) (hB _ _ rfl) rfl (by decide) (pc' := 104) rfl ?_
  refine r_aload_n hV rfl rfl (pc' := 105) rfl ?_
  refine tt_getI hV (tg := 0) (ci := 1) (kf := 3) rfl rfl (by decide) (hB _ _ rfl) rfl (by decide) (pc' := 108) rfl ?_
  obtain ⟨v108, m108, h, hr⟩ := h
  refine tt_cv1I hV rfl rfl rfl (Wd_obj (hB _ _ rfl)) (Nat.le_of_ble_eq_true rfl) (Nat.le_of_ble_eq_true rfl) rfl hr (pc' := 111) rfl ?_
  obtain ⟨g3, h⟩ := h
  refine tt_if_eq hV rfl g3 (pt := 116) (by decide) (pf := 114) rfl (fun hc => ?_) (fun hc => ?_)
  · replace h := h.1 hc
    refine r_gets hV rfl rfl rfl (pc' := 119) rfl ?_
    refine r_iload_n hV rfl rfl (pc' := 120) rfl ?_
    obtain ⟨g4, h⟩ := h
    refine q_ieald hV (a := 1000003) (T := xFIRST) (K := 5) rfl hB2 rfl rfl rfl rfl g4 rfl (Nat.le_of_ble_eq_true rfl) (pc' := 121) rfl ?_
    refine r_iload_n hV rfl rfl (pc' := 122) rfl ?_
    refine tt_iadd hV rfl (pc' := 123) rfl ?_
    refine tt_istore4 hV rfl rfl (pc' := 125) rfl ?_
    refine r_iload_n hV rfl rfl (pc' := 126) rfl ?_
    refine r_gets hV rfl rfl rfl (pc' := 129) rfl ?_
    refine r_iload hV rfl rfl (pc' := 131) rfl ?_
    obtain ⟨g5, h⟩ := h
    refine q_ieald hV (a := 1000004) (T := xLOW) (K := 14) rfl hB2 rfl rfl rfl rfl g5 rfl (Nat.le_of_ble_eq_true rfl) (pc' := 132) rfl ?_
    obtain ⟨g6, h⟩ := h
    obtain ⟨g7, h⟩ := h
    refine tt_icmp_lt hV rfl g6 g7 (pt := 145) (by decide) (pf := 135) rfl (fun hc => ?_) (fun hc => ?_)
    · replace h := h.1 hc
      refine r_aload_n hV rfl rfl (pc' := 146) rfl ?_
      refine r_dup hV rfl rfl (pc' := 147) rfl ?_
      refine tt_getI hV (tg := 0) (ci := 1) (kf := 3) rfl rfl (by decide) (hB _ _ rfl) rfl (by decide) (pc' := 150) rfl ?_
      refine tt_iconst hV rfl (pc' := 151) rfl ?_
      refine tt_isub hV rfl (pc' := 152) rfl ?_
      refine tt_putI hV (tg := 0) (ci := 1) (kf := 3) rfl rfl (Or.inl rfl) (hB _ _ rfl) rfl (by decide) rfl (pc' := 155) rfl ?_
      refine tt_iconst hV rfl (pc' := 156) rfl ?_
      exact rq_ret (q := mI17) rfl rfl rfl h
    · replace h := h.2 (Int.not_lt.mp hc)
      refine r_iload_n hV rfl rfl (pc' := 136) rfl ?_
      refine r_gets hV rfl rfl rfl (pc' := 139) rfl ?_
      refine r_iload hV rfl rfl (pc' := 141) rfl ?_
      refine q_ieald hV (a := 1000005) (T := xHIGH) (K := 14) rfl hB2 rfl rfl rfl rfl g5 rfl (Nat.le_of_ble_eq_true rfl) (pc' := 142) rfl ?_
      obtain ⟨g8, h⟩ := h
      refine tt_icmp_le hV rfl g6 g8 (pt := 157) (by decide) (pf := 145) rfl (fun hc => ?_) (fun hc => ?_)
      · replace h := h.1 hc
        refine r_aload_n hV rfl rfl (pc' := 158) rfl ?_
        refine tt_getR hV (tg := 6) (ci := 1) (kf := 1) rfl rfl (by decide) (hB _ _ rfl) rfl (by decide) (pc' := 161) rfl ?_
        refine r_iload_n hV rfl rfl (pc' := 162) rfl ?_
        refine r_iload_n hV rfl rfl (pc' := 163) rfl ?_
        obtain ⟨g9, h⟩ := h
        refine q_iast hV rfl (hB _ _ rfl) (Nat.le_of_ble_eq_true rfl) rfl g9 (pc' := 164) rfl ?_
        refine tt_iconst hV rfl (pc' := 165) rfl ?_
        exact rq_ret (q := mI17) rfl rfl rfl h
      · replace h := h.2 (Int.not_le.mp hc)
        refine r_aload_n hV rfl rfl (pc' := 146) rfl ?_
        refine r_dup hV rfl rfl (pc' := 147) rfl ?_
        refine tt_getI hV (tg := 0) (ci := 1) (kf := 3) rfl rfl (by decide) (hB _ _ rfl) rfl (by decide) (pc' := 150) rfl ?_
        refine tt_iconst hV rfl (pc' := 151) rfl ?_
        refine tt_isub hV rfl (pc' := 152) rfl ?_
        refine tt_putI hV (tg := 0) (ci := 1) (kf := 3) rfl rfl (Or.inl rfl) (hB _ _ rfl) rfl (by decide) rfl (pc' := 155) rfl ?_
        refine tt_iconst hV rfl (pc' := 156) rfl ?_
        exact rq_ret (q := mI17) rfl rfl rfl h
  · replace h := h.2 hc
    refine tt_iconst hV rfl (pc' := 115) rfl ?_
    exact rq_ret (q := mI17) rfl rfl rfl h
theorem F_addw {X : Cx} {d : Nat} {f : Nat} {x : Int} {m : Mm} {Q : Mm → Prop} (hB : Bsh X.2.2.1) (hf : fO f) (h : (-2147483648 ≤ (m f 1) ∧ (m f 1) < 2147483648) ∧ (-2147483648 ≤ ((fLen f : Int)) ∧ ((fLen f : Int)) < 2147483648) ∧ ((fLen f : Int) ≤ m f 1 → Q m) ∧ (m f 1 < (fLen f : Int) → (0 ≤ m f 1 ∧ m f 1 < (fLen f : Int)) ∧ Q (up (up m (f + 1) (m f 1) x) f 1 (m f 1 + 1)))) : F_add X d f x m Q := by
  unfold F_add
  have hV : Clo (gP X.1 X.2.1) d 19 2 false (Ru0 (gP X.1 X.2.1) d 19 X.2.2.1 X.2.2.2 Q) := Ru0_clo (q := mI19) rfl
  refine r_aload_n hV rfl rfl (pc' := 1) rfl ?_
  refine tt_getI hV (tg := 0) (ci := 2) (kf := 1) rfl rfl (by decide) (fSh hB hf).1 rfl (by decide) (pc' := 4) rfl ?_
  refine r_aload_n hV rfl rfl (pc' := 5) rfl ?_
  refine tt_getR hV (tg := 6) (ci := 2) (kf := 0) rfl rfl (by decide) (fSh hB hf).1 rfl (by decide) (pc' := 8) rfl ?_
  refine q_alen hV rfl (fSh hB hf).2 (by decide) (z := (fLen f : Int)) rfl (pc' := 9) rfl ?_
  obtain ⟨g1, h⟩ := h
  obtain ⟨g2, h⟩ := h
  refine tt_icmp_ge hV rfl g1 g2 (pt := 32) (by decide) (pf := 12) rfl (fun hc => ?_) (fun hc => ?_)
  · replace h := h.1 hc
    exact ru0_ret (q := mI19) rfl rfl rfl h
  · replace h := h.2 (Int.not_le.mp hc)
    refine r_aload_n hV rfl rfl (pc' := 13) rfl ?_
    refine tt_getR hV (tg := 6) (ci := 2) (kf := 0) rfl rfl (by decide) (fSh hB hf).1 rfl (by decide) (pc' := 16) rfl ?_
    refine r_aload_n hV rfl rfl (pc' := 17) rfl ?_
    refine tt_getI hV (tg := 0) (ci := 2) (kf := 1) rfl rfl (by decide) (fSh hB hf).1 rfl (by decide) (pc' := 20) rfl ?_
    refine r_iload_n hV rfl rfl (pc' := 21) rfl ?_
    obtain ⟨g3, h⟩ := h
    refine q_iast hV rfl (fSh hB hf).2 (fLen_le f) rfl g3 (pc' := 22) rfl ?_
    refine r_aload_n hV rfl rfl (pc' := 23) rfl ?_
    refine r_dup hV rfl rfl (pc' := 24) rfl ?_
    refine tt_getI hV (tg := 0) (ci := 2) (kf := 1) rfl rfl (by decide) (fSh hB hf).1 rfl (by decide) (pc' := 27) rfl ?_
    refine vtI (y := m f 1) (up_ne (Or.inl (by clear h; omega))) ?_
    refine tt_iconst hV rfl (pc' := 28) rfl ?_
    refine tt_iadd hV rfl (pc' := 29) rfl ?_
    refine tt_putI hV (tg := 0) (ci := 2) (kf := 1) rfl rfl (Or.inl rfl) (fSh hB hf).1 rfl (by decide) rfl (pc' := 32) rfl ?_
    exact ru0_ret (q := mI19) rfl rfl rfl h
theorem F_atw {X : Cx} {d : Nat} {f : Nat} {x : Int} {m : Mm} {Q : Int → Mm → Prop} (hB : Bsh X.2.2.1) (hf : fO f) (h : (-2147483648 ≤ x ∧ x < 2147483648) ∧ (x < 0 → Q (-1) m) ∧ (0 ≤ x → (-2147483648 ≤ (m f 1) ∧ (m f 1) < 2147483648) ∧ (m f 1 ≤ x → Q (-1) m) ∧ (x < m f 1 → (0 ≤ x ∧ x < (fLen f : Int)) ∧ Q (m (f + 1) x) m))) : F_at X d f x m Q := by
  unfold F_at
  have hV : Clo (gP X.1 X.2.1) d 20 2 false (Rq (gP X.1 X.2.1) d 20 X.2.2.1 X.2.2.2 Q) := Rq_clo (q := mI20) rfl
  refine r_iload_n hV rfl rfl (pc' := 1) rfl ?_
  obtain ⟨g1, h⟩ := h
  refine tt_if_lt hV rfl g1 (pt := 21) (by decide) (pf := 4) rfl (fun hc => ?_) (fun hc => ?_)
  · replace h := h.1 hc
    refine tt_iconst hV rfl (pc' := 22) rfl ?_
    exact rq_ret (q := mI20) rfl rfl rfl h
  · replace h := h.2 (Int.not_lt.mp hc)
    refine r_iload_n hV rfl rfl (pc' := 5) rfl ?_
    refine r_aload_n hV rfl rfl (pc' := 6) rfl ?_
    refine tt_getI hV (tg := 0) (ci := 2) (kf := 1) rfl rfl (by decide) (fSh hB hf).1 rfl (by decide) (pc' := 9) rfl ?_
    obtain ⟨g2, h⟩ := h
    refine tt_icmp_ge hV rfl g1 g2 (pt := 21) (by decide) (pf := 12) rfl (fun hc => ?_) (fun hc => ?_)
    · replace h := h.1 hc
      refine tt_iconst hV rfl (pc' := 22) rfl ?_
      exact rq_ret (q := mI20) rfl rfl rfl h
    · replace h := h.2 (Int.not_le.mp hc)
      refine r_aload_n hV rfl rfl (pc' := 13) rfl ?_
      refine tt_getR hV (tg := 6) (ci := 2) (kf := 0) rfl rfl (by decide) (fSh hB hf).1 rfl (by decide) (pc' := 16) rfl ?_
      refine r_iload_n hV rfl rfl (pc' := 17) rfl ?_
      obtain ⟨g3, h⟩ := h
      refine q_iald hV rfl (fSh hB hf).2 (fLen_le f) rfl g3 (pc' := 18) rfl ?_
      refine r_goto hV rfl (pc' := 22) (by decide) ?_
      exact rq_ret (q := mI20) rfl rfl rfl h
theorem F_pickw {X : Cx} {d : Nat} {f : Nat} {x : Int} {m : Mm} {Q : Int → Mm → Prop} (hB : Bsh X.2.2.1) (hf : fO f) (h : (-2147483648 ≤ x ∧ x < 2147483648) ∧ (x ≠ -1 → F_at X d f x m (fun v14 m14 => Q v14 m14)) ∧ (x = -1 → Q (m f 1) m)) : F_pick X (d + 1) f x m Q := by
  unfold F_pick
  have hV : Clo (gP X.1 X.2.1) (d + 1) 21 2 false (Rq (gP X.1 X.2.1) (d + 1) 21 X.2.2.1 X.2.2.2 Q) := Rq_clo (q := mI21) rfl
  refine r_iload_n hV rfl rfl (pc' := 1) rfl ?_
  refine tt_iconst hV rfl (pc' := 2) rfl ?_
  obtain ⟨g1, h⟩ := h
  refine tt_icmp_ne hV rfl g1 (by decide) (pt := 12) (by decide) (pf := 5) rfl (fun hc => ?_) (fun hc => ?_)
  · replace h := h.1 hc
    refine r_aload_n hV rfl rfl (pc' := 13) rfl ?_
    refine r_iload_n hV rfl rfl (pc' := 14) rfl ?_
    obtain ⟨v14, m14, h, hr⟩ := h
    refine tt_cv1I hV rfl rfl rfl (Wd_obj (fSh hB hf).1) (Nat.le_of_ble_eq_true rfl) (Nat.le_of_ble_eq_true rfl) rfl hr (pc' := 17) rfl ?_
    exact rq_ret (q := mI21) rfl rfl rfl h
  · replace h := h.2 (Decidable.not_not.mp hc)
    refine r_aload_n hV rfl rfl (pc' := 6) rfl ?_
    refine tt_getI hV (tg := 0) (ci := 2) (kf := 1) rfl rfl (by decide) (fSh hB hf).1 rfl (by decide) (pc' := 9) rfl ?_
    refine r_goto hV rfl (pc' := 17) (by decide) ?_
    exact rq_ret (q := mI21) rfl rfl rfl h
theorem H_forgetw {X : Cx} {d : Nat} {m : Mm} {Q : Mm → Prop} (hB : Bsh X.2.2.1) (h : Q (up (up m 21 0 0) 21 1 0)) : H_forget X d m Q := by
  unfold H_forget
  have hV : Clo (gP X.1 X.2.1) d 23 1 false (Ru0 (gP X.1 X.2.1) d 23 X.2.2.1 X.2.2.2 Q) := Ru0_clo (q := mI23) rfl
  refine r_aload_n hV rfl rfl (pc' := 1) rfl ?_
  refine tt_iconst hV rfl (pc' := 2) rfl ?_
  refine tt_putI hV (tg := 0) (ci := 3) (kf := 0) rfl rfl (Or.inl rfl) (hB _ _ rfl) rfl (by decide) rfl (pc' := 5) rfl ?_
  refine r_aload_n hV rfl rfl (pc' := 6) rfl ?_
  refine tt_iconst hV rfl (pc' := 7) rfl ?_
  refine tt_putZ hV (tg := 0) (ci := 3) (kf := 1) rfl rfl (Or.inl rfl) (hB _ _ rfl) rfl (by decide) rfl (by decide) (pc' := 10) rfl ?_
  exact ru0_ret (q := mI23) rfl rfl rfl h
theorem H_noteRoww {X : Cx} {d : Nat} {x : Int} {y : Int} {m : Mm} {Q : Mm → Prop} (hB : Bsh X.2.2.1) (h : (0 ≤ (iA (m 17 10) 1023) ∧ (iA (m 17 10) 1023) < 1024) ∧ Q (up (up m 22 ((iA (m 17 10) 1023)) ((iO ((iO ((iSl (x + 2048) 10)) ((iSl y 4)))) (m 17 8)))) 17 10 (m 17 10 + 1))) : H_noteRow X d x y m Q := by
  unfold H_noteRow
  have hV : Clo (gP X.1 X.2.1) d 24 4 false (Ru0 (gP X.1 X.2.1) d 24 X.2.2.1 X.2.2.2 Q) := Ru0_clo (q := mI24) rfl
  refine r_aload_n hV rfl rfl (pc' := 1) rfl ?_
  refine tt_getR hV (tg := 6) (ci := 3) (kf := 2) rfl rfl (by decide) (hB _ _ rfl) rfl (by decide) (pc' := 4) rfl ?_
  refine r_aload_n hV rfl rfl (pc' := 5) rfl ?_
  refine tt_getI hV (tg := 0) (ci := 8) (kf := 10) rfl rfl (by decide) (hB _ _ rfl) rfl (by decide) (pc' := 8) rfl ?_
  refine tt_sipush hV rfl (by decide) (pc' := 11) rfl ?_
  refine tt_iand hV rfl (pc' := 12) rfl ?_
  refine r_iload_n hV rfl rfl (pc' := 13) rfl ?_
  refine tt_sipush hV rfl (by decide) (pc' := 16) rfl ?_
  refine tt_iadd hV rfl (pc' := 17) rfl ?_
  refine tt_bipush hV rfl (by decide) (pc' := 19) rfl ?_
  refine tt_ishl hV rfl (pc' := 20) rfl ?_
  refine r_iload_n hV rfl rfl (pc' := 21) rfl ?_
  refine tt_iconst hV rfl (pc' := 22) rfl ?_
  refine tt_ishl hV rfl (pc' := 23) rfl ?_
  refine tt_ior hV rfl (pc' := 24) rfl ?_
  refine r_aload_n hV rfl rfl (pc' := 25) rfl ?_
  refine tt_getI hV (tg := 0) (ci := 8) (kf := 8) rfl rfl (by decide) (hB _ _ rfl) rfl (by decide) (pc' := 28) rfl ?_
  refine tt_ior hV rfl (pc' := 29) rfl ?_
  obtain ⟨g1, h⟩ := h
  refine q_iast hV rfl (hB _ _ rfl) (Nat.le_of_ble_eq_true rfl) rfl g1 (pc' := 30) rfl ?_
  refine r_aload_n hV rfl rfl (pc' := 31) rfl ?_
  refine r_dup hV rfl rfl (pc' := 32) rfl ?_
  refine tt_getI hV (tg := 0) (ci := 8) (kf := 10) rfl rfl (by decide) (hB _ _ rfl) rfl (by decide) (pc' := 35) rfl ?_
  refine vtI (y := m 17 10) (up_ne (Or.inl (by decide))) ?_
  refine tt_iconst hV rfl (pc' := 36) rfl ?_
  refine tt_iadd hV rfl (pc' := 37) rfl ?_
  refine tt_putI hV (tg := 0) (ci := 8) (kf := 10) rfl rfl (Or.inl rfl) (hB _ _ rfl) rfl (by decide) rfl (pc' := 40) rfl ?_
  exact ru0_ret (q := mI24) rfl rfl rfl h
theorem H_lengthOfLogw {X : Cx} {d : Nat} {m : Mm} {Q : Int → Mm → Prop} (hB : Bsh X.2.2.1) (h : (-2147483648 ≤ (m 17 10) ∧ (m 17 10) < 2147483648) ∧ Q ((min (m 17 10) 60)) m) : H_lengthOfLog X (d + 1) m Q := by
  unfold H_lengthOfLog
  have hV : Clo (gP X.1 X.2.1) (d + 1) 25 2 false (Rq (gP X.1 X.2.1) (d + 1) 25 X.2.2.1 X.2.2.2 Q) := Rq_clo (q := mI25) rfl
  refine r_aload_n hV rfl rfl (pc' := 1) rfl ?_
  refine tt_getI hV (tg := 0) (ci := 8) (kf := 10) rfl rfl (by decide) (hB _ _ rfl) rfl (by decide) (pc' := 4) rfl ?_
  refine tt_bipush hV rfl (by decide) (pc' := 6) rfl ?_
  obtain ⟨g1, h⟩ := h
  refine tt_min hV rfl rfl rfl g1 (by decide) (Nat.le_of_ble_eq_true rfl) (pc' := 9) rfl ?_
  exact rq_ret (q := mI25) rfl rfl rfl h
theorem H_entryAtw {X : Cx} {d : Nat} {x : Int} {m : Mm} {Q : Int → Mm → Prop} (hB : Bsh X.2.2.1) (h : (0 ≤ (iA (m 17 10 - x - 1) 1023) ∧ (iA (m 17 10 - x - 1) 1023) < 1024) ∧ Q (m 22 ((iA (m 17 10 - x - 1) 1023))) m) : H_entryAt X d x m Q := by
  unfold H_entryAt
  have hV : Clo (gP X.1 X.2.1) d 26 3 false (Rq (gP X.1 X.2.1) d 26 X.2.2.1 X.2.2.2 Q) := Rq_clo (q := mI26) rfl
  refine r_aload_n hV rfl rfl (pc' := 1) rfl ?_
  refine tt_getR hV (tg := 6) (ci := 3) (kf := 2) rfl rfl (by decide) (hB _ _ rfl) rfl (by decide) (pc' := 4) rfl ?_
  refine r_aload_n hV rfl rfl (pc' := 5) rfl ?_
  refine tt_getI hV (tg := 0) (ci := 8) (kf := 10) rfl rfl (by decide) (hB _ _ rfl) rfl (by decide) (pc' := 8) rfl ?_
  refine tt_iconst hV rfl (pc' := 9) rfl ?_
  refine tt_isub hV rfl (pc' := 10) rfl ?_
  refine r_iload_n hV rfl rfl (pc' := 11) rfl ?_
  refine tt_isub hV rfl (pc' := 12) rfl ?_
  refine vtI (y := m 17 10 - x - 1) (by clear h; omega) ?_
  refine tt_sipush hV rfl (by decide) (pc' := 15) rfl ?_
  refine tt_iand hV rfl (pc' := 16) rfl ?_
  obtain ⟨g1, h⟩ := h
  refine q_iald hV rfl (hB _ _ rfl) (Nat.le_of_ble_eq_true rfl) rfl g1 (pc' := 17) rfl ?_
  exact rq_ret (q := mI26) rfl rfl rfl h
theorem H_columnInw {X : Cx} {d : Nat} {x : Int} {m : Mm} {Q : Int → Mm → Prop} (hB : Bsh X.2.2.1) (h : Q ((iA x 15)) m) : H_columnIn X d x m Q := by
  unfold H_columnIn
  have hV : Clo (gP X.1 X.2.1) d 27 1 false (Rq (gP X.1 X.2.1) d 27 X.2.2.1 X.2.2.2 Q) := Rq_clo (q := mI27) rfl
  refine r_iload_n hV rfl rfl (pc' := 1) rfl ?_
  refine tt_bipush hV rfl (by decide) (pc' := 3) rfl ?_
  refine tt_iand hV rfl (pc' := 4) rfl ?_
  exact rq_ret (q := mI27) rfl rfl rfl h
theorem H_sumInw {X : Cx} {d : Nat} {x : Int} {m : Mm} {Q : Int → Mm → Prop} (hB : Bsh X.2.2.1) (h : Q ((iSr x 10) - 2048) m) : H_sumIn X d x m Q := by
  unfold H_sumIn
  have hV : Clo (gP X.1 X.2.1) d 28 1 false (Rq (gP X.1 X.2.1) d 28 X.2.2.1 X.2.2.2 Q) := Rq_clo (q := mI28) rfl
  refine r_iload_n hV rfl rfl (pc' := 1) rfl ?_
  refine tt_bipush hV rfl (by decide) (pc' := 3) rfl ?_
  refine tt_ishr hV rfl (pc' := 4) rfl ?_
  refine tt_sipush hV rfl (by decide) (pc' := 7) rfl ?_
  refine tt_isub hV rfl (pc' := 8) rfl ?_
  exact rq_ret (q := mI28) rfl rfl rfl h
theorem H_fallenInw {X : Cx} {d : Nat} {x : Int} {m : Mm} {Q : Int → Mm → Prop} (hB : Bsh X.2.2.1) (h : Q ((iA ((iSr x 4)) 63)) m) : H_fallenIn X d x m Q := by
  unfold H_fallenIn
  have hV : Clo (gP X.1 X.2.1) d 29 1 false (Rq (gP X.1 X.2.1) d 29 X.2.2.1 X.2.2.2 Q) := Rq_clo (q := mI29) rfl
  refine r_iload_n hV rfl rfl (pc' := 1) rfl ?_
  refine tt_iconst hV rfl (pc' := 2) rfl ?_
  refine tt_ishr hV rfl (pc' := 3) rfl ?_
  refine tt_bipush hV rfl (by decide) (pc' := 5) rfl ?_
  refine tt_iand hV rfl (pc' := 6) rfl ?_
  exact rq_ret (q := mI29) rfl rfl rfl h
theorem H_keepActw {X : Cx} {d : Nat} {m : Mm} {Q : Mm → Prop} (hB : Bsh X.2.2.1) (h : (0 ≤ m 21 4 ∧ m 21 4 < 40) ∧ ∃ s : Nat, sO s ∧ (m 23 (m 21 4) = (s : Int)) ∧ T_copy X d s 17 m (fun m10 => (-2147483648 ≤ (m10 21 0 + 1) ∧ (m10 21 0 + 1) < 2147483648) ∧ Q (up (up m10 21 4 ((iRm (m10 21 4 + 1) 40))) 21 0 ((min (m10 21 0 + 1) 40))))) : H_keepAct X (d + 1) m Q := by
  unfold H_keepAct
  have hV : Clo (gP X.1 X.2.1) (d + 1) 30 2 false (Ru0 (gP X.1 X.2.1) (d + 1) 30 X.2.2.1 X.2.2.2 Q) := Ru0_clo (q := mI30) rfl
  refine r_aload_n hV rfl rfl (pc' := 1) rfl ?_
  refine tt_getR hV (tg := 6) (ci := 3) (kf := 3) rfl rfl (by decide) (hB _ _ rfl) rfl (by decide) (pc' := 4) rfl ?_
  refine r_aload_n hV rfl rfl (pc' := 5) rfl ?_
  refine tt_getI hV (tg := 0) (ci := 3) (kf := 4) rfl rfl (by decide) (hB _ _ rfl) rfl (by decide) (pc' := 8) rfl ?_
  obtain ⟨g1, h⟩ := h
  obtain ⟨s, hs, h⟩ := h
  obtain ⟨g2, h⟩ := h
  refine q_aald hV rfl (hB _ _ rfl) (by decide) gOcs (Nat.le_of_ble_eq_true rfl) rfl g1 (b := s) g2 (pc' := 9) rfl ?_
  refine r_aload_n hV rfl rfl (pc' := 10) rfl ?_
  obtain ⟨m10, h, hr⟩ := h
  refine tt_cv1U hV rfl rfl rfl (Wd_obj (sSh hB hs)) (Nat.le_of_ble_eq_true rfl) (Nat.le_of_ble_eq_true rfl) rfl hr (pc' := 13) rfl ?_
  refine r_aload_n hV rfl rfl (pc' := 14) rfl ?_
  refine r_aload_n hV rfl rfl (pc' := 15) rfl ?_
  refine tt_getI hV (tg := 0) (ci := 3) (kf := 4) rfl rfl (by decide) (hB _ _ rfl) rfl (by decide) (pc' := 18) rfl ?_
  refine tt_iconst hV rfl (pc' := 19) rfl ?_
  refine tt_iadd hV rfl (pc' := 20) rfl ?_
  refine tt_bipush hV rfl (by decide) (pc' := 22) rfl ?_
  refine tt_irem hV rfl (by decide) (pc' := 23) rfl ?_
  refine tt_putI hV (tg := 0) (ci := 3) (kf := 4) rfl rfl (Or.inl rfl) (hB _ _ rfl) rfl (by decide) rfl (pc' := 26) rfl ?_
  refine r_aload_n hV rfl rfl (pc' := 27) rfl ?_
  refine r_aload_n hV rfl rfl (pc' := 28) rfl ?_
  refine tt_getI hV (tg := 0) (ci := 3) (kf := 0) rfl rfl (by decide) (hB _ _ rfl) rfl (by decide) (pc' := 31) rfl ?_
  refine vtI (y := m10 21 0) (up_ne (Or.inr (by decide))) ?_
  refine tt_iconst hV rfl (pc' := 32) rfl ?_
  refine tt_iadd hV rfl (pc' := 33) rfl ?_
  refine tt_bipush hV rfl (by decide) (pc' := 35) rfl ?_
  obtain ⟨g3, h⟩ := h
  refine tt_min hV rfl rfl rfl g3 (by decide) (Nat.le_of_ble_eq_true rfl) (pc' := 38) rfl ?_
  refine tt_putI hV (tg := 0) (ci := 3) (kf := 0) rfl rfl (Or.inl rfl) (hB _ _ rfl) rfl (by decide) rfl (pc' := 41) rfl ?_
  exact ru0_ret (q := mI30) rfl rfl rfl h
theorem H_takeActBackw {X : Cx} {d : Nat} {m : Mm} {Q : Mm → Prop} (hB : Bsh X.2.2.1) (h : (-2147483648 ≤ (m 21 0) ∧ (m 21 0) < 2147483648) ∧ (m 21 0 ≤ 0 → Q m) ∧ (0 < m 21 0 → (0 ≤ (iRm (m 21 4 + 39) 40) ∧ (iRm (m 21 4 + 39) 40) < 40) ∧ ∃ s : Nat, sO s ∧ (m 23 ((iRm (m 21 4 + 39) 40)) = (s : Int)) ∧ T_copy X d 17 s (up m 21 4 ((iRm (m 21 4 + 39) 40))) (fun m33 => Q (up m33 21 0 (m33 21 0 - 1))))) : H_takeActBack X (d + 1) m Q := by
  unfold H_takeActBack
  have hV : Clo (gP X.1 X.2.1) (d + 1) 31 2 false (Ru0 (gP X.1 X.2.1) (d + 1) 31 X.2.2.1 X.2.2.2 Q) := Ru0_clo (q := mI31) rfl
  refine r_aload_n hV rfl rfl (pc' := 1) rfl ?_
  refine tt_getI hV (tg := 0) (ci := 3) (kf := 0) rfl rfl (by decide) (hB _ _ rfl) rfl (by decide) (pc' := 4) rfl ?_
  obtain ⟨g1, h⟩ := h
  refine tt_if_le hV rfl g1 (pt := 46) (by decide) (pf := 7) rfl (fun hc => ?_) (fun hc => ?_)
  · replace h := h.1 hc
    exact ru0_ret (q := mI31) rfl rfl rfl h
  · replace h := h.2 (Int.not_le.mp hc)
    refine r_aload_n hV rfl rfl (pc' := 8) rfl ?_
    refine r_aload_n hV rfl rfl (pc' := 9) rfl ?_
    refine tt_getI hV (tg := 0) (ci := 3) (kf := 4) rfl rfl (by decide) (hB _ _ rfl) rfl (by decide) (pc' := 12) rfl ?_
    refine tt_bipush hV rfl (by decide) (pc' := 14) rfl ?_
    refine tt_iadd hV rfl (pc' := 15) rfl ?_
    refine tt_iconst hV rfl (pc' := 16) rfl ?_
    refine tt_isub hV rfl (pc' := 17) rfl ?_
    refine vtI (y := m 21 4 + 39) (by clear h; omega) ?_
    refine tt_bipush hV rfl (by decide) (pc' := 19) rfl ?_
    refine tt_irem hV rfl (by decide) (pc' := 20) rfl ?_
    refine tt_putI hV (tg := 0) (ci := 3) (kf := 4) rfl rfl (Or.inl rfl) (hB _ _ rfl) rfl (by decide) rfl (pc' := 23) rfl ?_
    refine r_aload_n hV rfl rfl (pc' := 24) rfl ?_
    refine r_aload_n hV rfl rfl (pc' := 25) rfl ?_
    refine tt_getR hV (tg := 6) (ci := 3) (kf := 3) rfl rfl (by decide) (hB _ _ rfl) rfl (by decide) (pc' := 28) rfl ?_
    refine r_aload_n hV rfl rfl (pc' := 29) rfl ?_
    refine tt_getI hV (tg := 0) (ci := 3) (kf := 4) rfl rfl (by decide) (hB _ _ rfl) rfl (by decide) (pc' := 32) rfl ?_
    refine vtI (y := (iRm (m 21 4 + 39) 40)) (up_same _ _ _ _) ?_
    obtain ⟨g2, h⟩ := h
    obtain ⟨s, hs, h⟩ := h
    obtain ⟨g3, h⟩ := h
    refine q_aald hV rfl (hB _ _ rfl) (by decide) gOcs (Nat.le_of_ble_eq_true rfl) rfl g2 (b := s) ((up_ne (Or.inl (by decide))).trans g3) (pc' := 33) rfl ?_
    obtain ⟨m33, h, hr⟩ := h
    refine tt_cv1U hV rfl rfl rfl (Wd_obj (hB _ _ rfl)) (Nat.le_of_ble_eq_true rfl) (Nat.le_of_ble_eq_true rfl) rfl hr (pc' := 36) rfl ?_
    refine r_aload_n hV rfl rfl (pc' := 37) rfl ?_
    refine r_dup hV rfl rfl (pc' := 38) rfl ?_
    refine tt_getI hV (tg := 0) (ci := 3) (kf := 0) rfl rfl (by decide) (hB _ _ rfl) rfl (by decide) (pc' := 41) rfl ?_
    refine tt_iconst hV rfl (pc' := 42) rfl ?_
    refine tt_isub hV rfl (pc' := 43) rfl ?_
    refine tt_putI hV (tg := 0) (ci := 3) (kf := 0) rfl rfl (Or.inl rfl) (hB _ _ rfl) rfl (by decide) rfl (pc' := 46) rfl ?_
    exact ru0_ret (q := mI31) rfl rfl rfl h
theorem H_keepImagew {X : Cx} {d : Nat} {m : Mm} {Q : Mm → Prop} (hB : Bsh X.2.2.1) (h : T_copy X d 24 17 m (fun m5 => H_lengthOfLog X d m5 (fun v14 m14 => H_keepImage_22 X (d + 1) 0 (up m14 24 10 v14) Q))) : H_keepImage X (d + 1) m Q := by
  unfold H_keepImage
  have hV : Clo (gP X.1 X.2.1) (d + 1) 32 3 false (Ru0 (gP X.1 X.2.1) (d + 1) 32 X.2.2.1 X.2.2.2 Q) := Ru0_clo (q := mI32) rfl
  refine r_aload_n hV rfl rfl (pc' := 1) rfl ?_
  refine tt_getR hV (tg := 6) (ci := 3) (kf := 5) rfl rfl (by decide) (hB _ _ rfl) rfl (by decide) (pc' := 4) rfl ?_
  refine r_aload_n hV rfl rfl (pc' := 5) rfl ?_
  obtain ⟨m5, h, hr⟩ := h
  refine tt_cv1U hV rfl rfl rfl (Wd_obj (hB _ _ rfl)) (Nat.le_of_ble_eq_true rfl) (Nat.le_of_ble_eq_true rfl) rfl hr (pc' := 8) rfl ?_
  refine r_aload_n hV rfl rfl (pc' := 9) rfl ?_
  refine tt_getR hV (tg := 6) (ci := 3) (kf := 5) rfl rfl (by decide) (hB _ _ rfl) rfl (by decide) (pc' := 12) rfl ?_
  refine r_aload_n hV rfl rfl (pc' := 13) rfl ?_
  refine r_aload_n hV rfl rfl (pc' := 14) rfl ?_
  obtain ⟨v14, m14, h, hr⟩ := h
  refine tt_cv1I hV rfl rfl rfl (Wd_obj (hB _ _ rfl)) (Nat.le_of_ble_eq_true rfl) (Nat.le_of_ble_eq_true rfl) rfl hr (pc' := 17) rfl ?_
  refine tt_putI hV (tg := 0) (ci := 8) (kf := 10) rfl rfl (Or.inl rfl) (hB _ _ rfl) rfl (by decide) rfl (pc' := 20) rfl ?_
  refine tt_iconst hV rfl (pc' := 21) rfl ?_
  refine tt_istore2 hV rfl rfl (pc' := 22) rfl ?_
  exact h
theorem H_keepImage_22w {X : Cx} {d : Nat} {l2 : Int} {m : Mm} {Q : Mm → Prop} (hB : Bsh X.2.2.1) (h : (-2147483648 ≤ l2 ∧ l2 < 2147483648) ∧ (-2147483648 ≤ (m 24 10) ∧ (m 24 10) < 2147483648) ∧ (m 24 10 ≤ l2 → Q (up m 21 1 1)) ∧ (l2 < m 24 10 → H_entryAt X d l2 m (fun v41 m41 => (0 ≤ l2 ∧ l2 < 60) ∧ H_keepImage_22 X (d + 1) (l2 + 1) (up m41 25 l2 v41) Q))) : H_keepImage_22 X (d + 1) l2 m Q := by
  unfold H_keepImage_22
  have hV : Clo (gP X.1 X.2.1) (d + 1) 32 3 false (Ru0 (gP X.1 X.2.1) (d + 1) 32 X.2.2.1 X.2.2.2 Q) := Ru0_clo (q := mI32) rfl
  refine r_iload_n hV rfl rfl (pc' := 23) rfl ?_
  refine r_aload_n hV rfl rfl (pc' := 24) rfl ?_
  refine tt_getR hV (tg := 6) (ci := 3) (kf := 5) rfl rfl (by decide) (hB _ _ rfl) rfl (by decide) (pc' := 27) rfl ?_
  refine tt_getI hV (tg := 0) (ci := 8) (kf := 10) rfl rfl (by decide) (hB _ _ rfl) rfl (by decide) (pc' := 30) rfl ?_
  obtain ⟨g1, h⟩ := h
  obtain ⟨g2, h⟩ := h
  refine tt_icmp_ge hV rfl g1 g2 (pt := 51) (by decide) (pf := 33) rfl (fun hc => ?_) (fun hc => ?_)
  · replace h := h.1 hc
    refine r_aload_n hV rfl rfl (pc' := 52) rfl ?_
    refine tt_iconst hV rfl (pc' := 53) rfl ?_
    refine tt_putZ hV (tg := 0) (ci := 3) (kf := 1) rfl rfl (Or.inl rfl) (hB _ _ rfl) rfl (by decide) rfl (by decide) (pc' := 56) rfl ?_
    exact ru0_ret (q := mI32) rfl rfl rfl h
  · replace h := h.2 (Int.not_le.mp hc)
    refine r_aload_n hV rfl rfl (pc' := 34) rfl ?_
    refine tt_getR hV (tg := 6) (ci := 3) (kf := 6) rfl rfl (by decide) (hB _ _ rfl) rfl (by decide) (pc' := 37) rfl ?_
    refine r_iload_n hV rfl rfl (pc' := 38) rfl ?_
    refine r_aload_n hV rfl rfl (pc' := 39) rfl ?_
    refine r_aload_n hV rfl rfl (pc' := 40) rfl ?_
    refine r_iload_n hV rfl rfl (pc' := 41) rfl ?_
    obtain ⟨v41, m41, h, hr⟩ := h
    refine tt_cv2I hV rfl rfl rfl (Wd_obj (hB _ _ rfl)) (Nat.le_of_ble_eq_true rfl) (Nat.le_of_ble_eq_true rfl) rfl hr (pc' := 44) rfl ?_
    obtain ⟨g3, h⟩ := h
    refine q_iast hV rfl (hB _ _ rfl) (Nat.le_of_ble_eq_true rfl) rfl g3 (pc' := 45) rfl ?_
    refine tt_iinc2 hV rfl rfl (pc' := 48) rfl ?_
    refine r_goto hV rfl (pc' := 22) (by decide) ?_
    exact h
theorem H_giveImageBackw {X : Cx} {d : Nat} {m : Mm} {Q : Mm → Prop} (hB : Bsh X.2.2.1) (h : T_copy X d 17 24 m (fun m5 => H_giveImageBack_10 X (d + 1) 0 m5 Q)) : H_giveImageBack X (d + 1) m Q := by
  unfold H_giveImageBack
  have hV : Clo (gP X.1 X.2.1) (d + 1) 33 3 false (Ru0 (gP X.1 X.2.1) (d + 1) 33 X.2.2.1 X.2.2.2 Q) := Ru0_clo (q := mI33) rfl
  refine r_aload_n hV rfl rfl (pc' := 1) rfl ?_
  refine r_aload_n hV rfl rfl (pc' := 2) rfl ?_
  refine tt_getR hV (tg := 6) (ci := 3) (kf := 5) rfl rfl (by decide) (hB _ _ rfl) rfl (by decide) (pc' := 5) rfl ?_
  obtain ⟨m5, h, hr⟩ := h
  refine tt_cv1U hV rfl rfl rfl (Wd_obj (hB _ _ rfl)) (Nat.le_of_ble_eq_true rfl) (Nat.le_of_ble_eq_true rfl) rfl hr (pc' := 8) rfl ?_
  refine tt_iconst hV rfl (pc' := 9) rfl ?_
  refine tt_istore2 hV rfl rfl (pc' := 10) rfl ?_
  exact h
theorem H_giveImageBack_10w {X : Cx} {d : Nat} {l2 : Int} {m : Mm} {Q : Mm → Prop} (hB : Bsh X.2.2.1) (h : (-2147483648 ≤ l2 ∧ l2 < 2147483648) ∧ (-2147483648 ≤ (m 24 10) ∧ (m 24 10) < 2147483648) ∧ (m 24 10 ≤ l2 → Q (up m 21 0 0)) ∧ (l2 < m 24 10 → (0 ≤ l2 ∧ l2 < 60) ∧ (0 ≤ m 24 10 - l2 - 1 ∧ m 24 10 - l2 - 1 < 1024) ∧ H_giveImageBack_10 X (d + 1) (l2 + 1) (up m 22 (m 24 10 - l2 - 1) (m 25 l2)) Q)) : H_giveImageBack_10 X (d + 1) l2 m Q := by
  unfold H_giveImageBack_10
  have hV : Clo (gP X.1 X.2.1) (d + 1) 33 3 false (Ru0 (gP X.1 X.2.1) (d + 1) 33 X.2.2.1 X.2.2.2 Q) := Ru0_clo (q := mI33) rfl
  refine r_iload_n hV rfl rfl (pc' := 11) rfl ?_
  refine r_aload_n hV rfl rfl (pc' := 12) rfl ?_
  refine tt_getR hV (tg := 6) (ci := 3) (kf := 5) rfl rfl (by decide) (hB _ _ rfl) rfl (by decide) (pc' := 15) rfl ?_
  refine tt_getI hV (tg := 0) (ci := 8) (kf := 10) rfl rfl (by decide) (hB _ _ rfl) rfl (by decide) (pc' := 18) rfl ?_
  obtain ⟨g1, h⟩ := h
  obtain ⟨g2, h⟩ := h
  refine tt_icmp_ge hV rfl g1 g2 (pt := 49) (by decide) (pf := 21) rfl (fun hc => ?_) (fun hc => ?_)
  · replace h := h.1 hc
    refine r_aload_n hV rfl rfl (pc' := 50) rfl ?_
    refine tt_iconst hV rfl (pc' := 51) rfl ?_
    refine tt_putI hV (tg := 0) (ci := 3) (kf := 0) rfl rfl (Or.inl rfl) (hB _ _ rfl) rfl (by decide) rfl (pc' := 54) rfl ?_
    exact ru0_ret (q := mI33) rfl rfl rfl h
  · replace h := h.2 (Int.not_le.mp hc)
    refine r_aload_n hV rfl rfl (pc' := 22) rfl ?_
    refine tt_getR hV (tg := 6) (ci := 3) (kf := 2) rfl rfl (by decide) (hB _ _ rfl) rfl (by decide) (pc' := 25) rfl ?_
    refine r_aload_n hV rfl rfl (pc' := 26) rfl ?_
    refine tt_getR hV (tg := 6) (ci := 3) (kf := 5) rfl rfl (by decide) (hB _ _ rfl) rfl (by decide) (pc' := 29) rfl ?_
    refine tt_getI hV (tg := 0) (ci := 8) (kf := 10) rfl rfl (by decide) (hB _ _ rfl) rfl (by decide) (pc' := 32) rfl ?_
    refine tt_iconst hV rfl (pc' := 33) rfl ?_
    refine tt_isub hV rfl (pc' := 34) rfl ?_
    refine r_iload_n hV rfl rfl (pc' := 35) rfl ?_
    refine tt_isub hV rfl (pc' := 36) rfl ?_
    refine vtI (y := m 24 10 - l2 - 1) (by clear h; omega) ?_
    refine r_aload_n hV rfl rfl (pc' := 37) rfl ?_
    refine tt_getR hV (tg := 6) (ci := 3) (kf := 6) rfl rfl (by decide) (hB _ _ rfl) rfl (by decide) (pc' := 40) rfl ?_
    refine r_iload_n hV rfl rfl (pc' := 41) rfl ?_
    obtain ⟨g3, h⟩ := h
    refine q_iald hV rfl (hB _ _ rfl) (Nat.le_of_ble_eq_true rfl) rfl g3 (pc' := 42) rfl ?_
    obtain ⟨g4, h⟩ := h
    refine q_iast hV rfl (hB _ _ rfl) (Nat.le_of_ble_eq_true rfl) rfl g4 (pc' := 43) rfl ?_
    refine tt_iinc2 hV rfl rfl (pc' := 46) rfl ?_
    refine r_goto hV rfl (pc' := 10) (by decide) ?_
    exact h
theorem W_worthw {X : Cx} {d : Nat} {a ln : Nat} {l : Nat} {m : Mm} {Q : Int → Mm → Prop} (hB : Bsh X.2.2.1) (hlsh : X.2.2.1[l]? = some (.inl (4, [a + 3]))) (ha : X.2.2.1[a]? = some (.inr (.inl (0, ln)))) (hn : ln ≤ 100000) (h : W_worth_5 X (d + 1) l 0 0 none none none none m Q) : W_worth X (d + 1) l m Q := by
  unfold W_worth
  have hV : Clo (gP X.1 X.2.1) (d + 1) 35 10 false (Rq (gP X.1 X.2.1) (d + 1) 35 X.2.2.1 X.2.2.2 Q) := Rq_clo (q := mI35) rfl
  refine tt_iconst hV rfl (pc' := 1) rfl ?_
  refine tt_istore3 hV rfl rfl (pc' := 2) rfl ?_
  refine tt_iconst hV rfl (pc' := 3) rfl ?_
  refine tt_istore4 hV rfl rfl (pc' := 5) rfl ?_
  exact h
theorem W_worth_5w {X : Cx} {d : Nat} {a ln : Nat} {l : Nat} {l3 : Int} {l4 : Int} {o5 : Option Int} {o6 : Option Int} {o7 : Option Int} {o8 : Option Int} {m : Mm} {Q : Int → Mm → Prop} (hB : Bsh X.2.2.1) (hlsh : X.2.2.1[l]? = some (.inl (4, [a + 3]))) (ha : X.2.2.1[a]? = some (.inr (.inl (0, ln)))) (hn : ln ≤ 100000) (h : (-2147483648 ≤ l4 ∧ l4 < 2147483648) ∧ (-2147483648 ≤ ((ln : Int)) ∧ ((ln : Int)) < 2147483648) ∧ ((ln : Int) ≤ l4 → Q 0 m) ∧ (l4 < (ln : Int) → (0 ≤ l4 ∧ l4 < (ln : Int)) ∧ (1 < (iSr (m a l4) 14) → (-2147483648 ≤ l3 ∧ l3 < 2147483648) ∧ (l3 < 1 → Q 0 m) ∧ (1 ≤ l3 → ((iSr (m a l4) 14) ≤ 4 → W_worth_108 X (d + 1) l l3 l4 ((iSr (m a l4) 14)) ((iA (m a l4) 16383)) o7 o8 m Q) ∧ (4 < (iSr (m a l4) 14) → (2 ≤ l3 → W_worth_108 X (d + 1) l l3 l4 ((iSr (m a l4) 14)) ((iA (m a l4) 16383)) o7 o8 m Q) ∧ (l3 < 2 → Q 0 m)))) ∧ ((iSr (m a l4) 14) ≤ 1 → (-2147483648 ≤ l3 ∧ l3 < 2147483648) ∧ (40 ≤ l3 → Q 0 m) ∧ (l3 < 40 → ((iSr (m a l4) 14) ≠ 1 → W_worth_67 X (d + 1) l l3 l4 ((iSr (m a l4) 14)) ((iA (m a l4) 16383)) o7 o8 m Q) ∧ ((iSr (m a l4) 14) = 1 → ((iA (m a l4) 16383) < 6 → W_worth_67 X (d + 1) l l3 l4 ((iSr (m a l4) 14)) ((iA (m a l4) 16383)) o7 o8 m Q) ∧ (6 ≤ (iA (m a l4) 16383) → Q 0 m)))))) : W_worth_5 X (d + 1) l l3 l4 o5 o6 o7 o8 m Q := by
  unfold W_worth_5
  have hV : Clo (gP X.1 X.2.1) (d + 1) 35 10 false (Rq (gP X.1 X.2.1) (d + 1) 35 X.2.2.1 X.2.2.2 Q) := Rq_clo (q := mI35) rfl
  refine r_iload hV rfl rfl (pc' := 7) rfl ?_
  refine r_aload_n hV rfl rfl (pc' := 8) rfl ?_
  refine tt_getR hV (tg := 6) (ci := 4) (kf := 0) rfl rfl (by decide) hlsh rfl (by decide) (pc' := 11) rfl ?_
  refine q_alen hV rfl ha (by decide) (z := (ln : Int)) rfl (pc' := 12) rfl ?_
  obtain ⟨g1, h⟩ := h
  obtain ⟨g2, h⟩ := h
  refine tt_icmp_ge hV rfl g1 g2 (pt := 240) (by decide) (pf := 15) rfl (fun hc => ?_) (fun hc => ?_)
  · replace h := h.1 hc
    refine tt_iconst hV rfl (pc' := 241) rfl ?_
    exact rq_ret (q := mI35) rfl rfl rfl h
  · replace h := h.2 (Int.not_le.mp hc)
    refine r_aload_n hV rfl rfl (pc' := 16) rfl ?_
    refine tt_getR hV (tg := 6) (ci := 4) (kf := 0) rfl rfl (by decide) hlsh rfl (by decide) (pc' := 19) rfl ?_
    refine r_iload hV rfl rfl (pc' := 21) rfl ?_
    obtain ⟨g3, h⟩ := h
    refine q_iald hV rfl ha hn rfl g3 (pc' := 22) rfl ?_
    refine tt_bipush hV rfl (by decide) (pc' := 24) rfl ?_
    refine tt_ishr hV rfl (pc' := 25) rfl ?_
    refine tt_istore5 hV rfl rfl (pc' := 27) rfl ?_
    refine r_aload_n hV rfl rfl (pc' := 28) rfl ?_
    refine tt_getR hV (tg := 6) (ci := 4) (kf := 0) rfl rfl (by decide) hlsh rfl (by decide) (pc' := 31) rfl ?_
    refine r_iload hV rfl rfl (pc' := 33) rfl ?_
    refine q_iald hV rfl ha hn rfl g3 (pc' := 34) rfl ?_
    refine tt_sipush hV rfl (by decide) (pc' := 37) rfl ?_
    refine tt_iand hV rfl (pc' := 38) rfl ?_
    refine tt_istore6 hV rfl rfl (pc' := 40) rfl ?_
    refine r_iload hV rfl rfl (pc' := 42) rfl ?_
    refine tt_iconst hV rfl (pc' := 43) rfl ?_
    refine tt_icmp_gt hV rfl (i32R _) (by decide) (pt := 90) (by decide) (pf := 46) rfl (fun hc => ?_) (fun hc => ?_)
    · replace h := h.1 hc
      refine r_iload_n hV rfl rfl (pc' := 91) rfl ?_
      refine tt_iconst hV rfl (pc' := 92) rfl ?_
      obtain ⟨g4, h⟩ := h
      refine tt_icmp_lt hV rfl g4 (by decide) (pt := 106) (by decide) (pf := 95) rfl (fun hc => ?_) (fun hc => ?_)
      · replace h := h.1 hc
        refine tt_iconst hV rfl (pc' := 107) rfl ?_
        exact rq_ret (q := mI35) rfl rfl rfl h
      · replace h := h.2 (Int.not_lt.mp hc)
        refine r_iload hV rfl rfl (pc' := 97) rfl ?_
        refine tt_iconst hV rfl (pc' := 98) rfl ?_
        refine tt_icmp_le hV rfl (i32R _) (by decide) (pt := 108) (by decide) (pf := 101) rfl (fun hc => ?_) (fun hc => ?_)
        · replace h := h.1 hc
          exact h
        · replace h := h.2 (Int.not_le.mp hc)
          refine r_iload_n hV rfl rfl (pc' := 102) rfl ?_
          refine tt_iconst hV rfl (pc' := 103) rfl ?_
          refine tt_icmp_ge hV rfl g4 (by decide) (pt := 108) (by decide) (pf := 106) rfl (fun hc => ?_) (fun hc => ?_)
          · replace h := h.1 hc
            exact h
          · replace h := h.2 (Int.not_le.mp hc)
            refine tt_iconst hV rfl (pc' := 107) rfl ?_
            exact rq_ret (q := mI35) rfl rfl rfl h
    · replace h := h.2 (Int.not_lt.mp hc)
      refine r_iload_n hV rfl rfl (pc' := 47) rfl ?_
      refine r_aload_n hV rfl rfl (pc' := 48) rfl ?_
      refine q_alen hV rfl (hB _ _ rfl) (by decide) (z := 40) rfl (pc' := 49) rfl ?_
      obtain ⟨g5, h⟩ := h
      refine tt_icmp_ge hV rfl g5 (by decide) (pt := 65) (by decide) (pf := 52) rfl (fun hc => ?_) (fun hc => ?_)
      · replace h := h.1 hc
        refine tt_iconst hV rfl (pc' := 66) rfl ?_
        exact rq_ret (q := mI35) rfl rfl rfl h
      · replace h := h.2 (Int.not_le.mp hc)
        refine r_iload hV rfl rfl (pc' := 54) rfl ?_
        refine tt_iconst hV rfl (pc' := 55) rfl ?_
        refine tt_icmp_ne hV rfl (i32R _) (by decide) (pt := 67) (by decide) (pf := 58) rfl (fun hc => ?_) (fun hc => ?_)
        · replace h := h.1 hc
          exact h
        · replace h := h.2 (Decidable.not_not.mp hc)
          refine r_iload hV rfl rfl (pc' := 60) rfl ?_
          refine r_aload_n hV rfl rfl (pc' := 61) rfl ?_
          refine q_alen hV rfl (hB _ _ rfl) (by decide) (z := 6) rfl (pc' := 62) rfl ?_
          refine tt_icmp_lt hV rfl (i32R _) (by decide) (pt := 67) (by decide) (pf := 65) rfl (fun hc => ?_) (fun hc => ?_)
          · replace h := h.1 hc
            exact h
          · replace h := h.2 (Int.not_lt.mp hc)
            refine tt_iconst hV rfl (pc' := 66) rfl ?_
            exact rq_ret (q := mI35) rfl rfl rfl h
theorem W_worth_67w {X : Cx} {d : Nat} {a ln : Nat} {l : Nat} {l3 : Int} {l4 : Int} {l5 : Int} {l6 : Int} {o7 : Option Int} {o8 : Option Int} {m : Mm} {Q : Int → Mm → Prop} (hB : Bsh X.2.2.1) (hlsh : X.2.2.1[l]? = some (.inl (4, [a + 3]))) (ha : X.2.2.1[a]? = some (.inr (.inl (0, ln)))) (hn : ln ≤ 100000) (h : (-2147483648 ≤ l5 ∧ l5 < 2147483648) ∧ (l5 ≠ 0 → (0 ≤ l6 ∧ l6 < 6) ∧ (0 ≤ l3 ∧ l3 < 40) ∧ W_worth_5 X (d + 1) l (l3 + 1) (l4 + 1) (some l5) (some l6) o7 o8 (up m 20 l3 (m 19 l6)) Q) ∧ (l5 = 0 → (0 ≤ l3 ∧ l3 < 40) ∧ W_worth_5 X (d + 1) l (l3 + 1) (l4 + 1) (some l5) (some l6) o7 o8 (up m 20 l3 l6) Q)) : W_worth_67 X (d + 1) l l3 l4 l5 l6 o7 o8 m Q := by
  unfold W_worth_67
  have hV : Clo (gP X.1 X.2.1) (d + 1) 35 10 false (Rq (gP X.1 X.2.1) (d + 1) 35 X.2.2.1 X.2.2.2 Q) := Rq_clo (q := mI35) rfl
  refine r_aload_n hV rfl rfl (pc' := 68) rfl ?_
  refine r_iload_n hV rfl rfl (pc' := 69) rfl ?_
  refine r_iload hV rfl rfl (pc' := 71) rfl ?_
  obtain ⟨g6, h⟩ := h
  refine tt_if_ne hV rfl g6 (pt := 79) (by decide) (pf := 74) rfl (fun hc => ?_) (fun hc => ?_)
  · replace h := h.1 hc
    refine r_aload_n hV rfl rfl (pc' := 80) rfl ?_
    refine r_iload hV rfl rfl (pc' := 82) rfl ?_
    obtain ⟨g7, h⟩ := h
    refine q_iald hV rfl (hB _ _ rfl) (Nat.le_of_ble_eq_true rfl) rfl g7 (pc' := 83) rfl ?_
    obtain ⟨g8, h⟩ := h
    refine q_iast hV rfl (hB _ _ rfl) (Nat.le_of_ble_eq_true rfl) rfl g8 (pc' := 84) rfl ?_
    refine tt_iinc3 hV rfl rfl (pc' := 87) rfl ?_
    refine r_goto hV rfl (pc' := 234) (by decide) ?_
    refine tt_iinc4 hV rfl rfl (pc' := 237) rfl ?_
    refine r_goto hV rfl (pc' := 5) (by decide) ?_
    exact h
  · replace h := h.2 (Decidable.not_not.mp hc)
    refine r_iload hV rfl rfl (pc' := 76) rfl ?_
    refine r_goto hV rfl (pc' := 83) (by decide) ?_
    obtain ⟨g9, h⟩ := h
    refine q_iast hV rfl (hB _ _ rfl) (Nat.le_of_ble_eq_true rfl) rfl g9 (pc' := 84) rfl ?_
    refine tt_iinc3 hV rfl rfl (pc' := 87) rfl ?_
    refine r_goto hV rfl (pc' := 234) (by decide) ?_
    refine tt_iinc4 hV rfl rfl (pc' := 237) rfl ?_
    refine r_goto hV rfl (pc' := 5) (by decide) ?_
    exact h
theorem W_worth_108w {X : Cx} {d : Nat} {a ln : Nat} {l : Nat} {l3 : Int} {l4 : Int} {l5 : Int} {l6 : Int} {o7 : Option Int} {o8 : Option Int} {m : Mm} {Q : Int → Mm → Prop} (hB : Bsh X.2.2.1) (hlsh : X.2.2.1[l]? = some (.inl (4, [a + 3]))) (ha : X.2.2.1[a]? = some (.inr (.inl (0, ln)))) (hn : ln ≤ 100000) (h : (0 ≤ l3 - 1 ∧ l3 - 1 < 40) ∧ (-2147483648 ≤ l5 ∧ l5 < 2147483648) ∧ (l5 ≠ 2 → (l5 ≠ 3 → (l5 ≠ 4 → (0 ≤ l3 - 2 ∧ l3 - 2 < 40) ∧ (-2147483648 ≤ (m 20 (l3 - 2)) ∧ (m 20 (l3 - 2)) < 2147483648) ∧ (-2147483648 ≤ (m 20 (l3 - 1)) ∧ (m 20 (l3 - 1)) < 2147483648) ∧ W_joined X d l5 (m 20 (l3 - 2)) (m 20 (l3 - 1)) m (fun v191 m191 => (-9223372036854775808 ≤ v191 ∧ v191 < 9223372036854775808) ∧ ((if 1000000 < v191 then 1 else if v191 = 1000000 then 0 else -1) ≤ 0 → (0 ≤ (if (-1000000) < v191 then 1 else if v191 = (-1000000) then 0 else -1) → W_worth_5 X (d + 1) l (l3 - 1) (l4 + 1) (some l5) (some l6) (some (m 20 (l3 - 1))) (some v191) (up m191 20 (l3 - 2) v191) Q) ∧ ((if (-1000000) < v191 then 1 else if v191 = (-1000000) then 0 else -1) < 0 → W_worth_5 X (d + 1) l (l3 - 1) (l4 + 1) (some l5) (some l6) (some (m 20 (l3 - 1))) (some v191) (up m191 20 (l3 - 2) ((-1000000))) Q)) ∧ (0 < (if 1000000 < v191 then 1 else if v191 = 1000000 then 0 else -1) → W_worth_5 X (d + 1) l (l3 - 1) (l4 + 1) (some l5) (some l6) (some (m 20 (l3 - 1))) (some v191) (up m191 20 (l3 - 2) 1000000) Q))) ∧ (l5 = 4 → W_worth_5 X (d + 1) l l3 (l4 + 1) (some l5) (some l6) (some (m 20 (l3 - 1))) o8 (up m 20 (l3 - 1) (-m 20 (l3 - 1) + 1)) Q)) ∧ (l5 = 3 → (-2147483648 ≤ (m 20 (l3 - 1)) ∧ (m 20 (l3 - 1)) < 2147483648) ∧ (m 20 (l3 - 1) ≠ 0 → W_worth_5 X (d + 1) l (l3 - 1) (l4 + 1) (some l5) (some l6) (some (m 20 (l3 - 1))) o8 m Q) ∧ (m 20 (l3 - 1) = 0 → (-2147483648 ≤ l6 ∧ l6 < 2147483648) ∧ (-2147483648 ≤ l4 ∧ l4 < 2147483648) ∧ (l6 ≤ l4 → W_worth_5 X (d + 1) l (l3 - 1) (l4 + 1) (some l5) (some l6) (some (m 20 (l3 - 1))) o8 m Q) ∧ (l4 < l6 → W_worth_5 X (d + 1) l (l3 - 1) l6 (some l5) (some l6) (some (m 20 (l3 - 1))) o8 m Q)))) ∧ (l5 = 2 → Q (m 20 (l3 - 1)) m)) : W_worth_108 X (d + 1) l l3 l4 l5 l6 o7 o8 m Q := by
  unfold W_worth_108
  have hV : Clo (gP X.1 X.2.1) (d + 1) 35 10 false (Rq (gP X.1 X.2.1) (d + 1) 35 X.2.2.1 X.2.2.2 Q) := Rq_clo (q := mI35) rfl
  refine r_aload_n hV rfl rfl (pc' := 109) rfl ?_
  refine r_iload_n hV rfl rfl (pc' := 110) rfl ?_
  refine tt_iconst hV rfl (pc' := 111) rfl ?_
  refine tt_isub hV rfl (pc' := 112) rfl ?_
  obtain ⟨g10, h⟩ := h
  refine q_iald hV rfl (hB _ _ rfl) (Nat.le_of_ble_eq_true rfl) rfl g10 (pc' := 113) rfl ?_
  refine tt_istore7 hV rfl rfl (pc' := 115) rfl ?_
  refine r_iload hV rfl rfl (pc' := 117) rfl ?_
  refine tt_iconst hV rfl (pc' := 118) rfl ?_
  obtain ⟨g11, h⟩ := h
  refine tt_icmp_ne hV rfl g11 (by decide) (pt := 124) (by decide) (pf := 121) rfl (fun hc => ?_) (fun hc => ?_)
  · replace h := h.1 hc
    refine r_iload hV rfl rfl (pc' := 126) rfl ?_
    refine tt_iconst hV rfl (pc' := 127) rfl ?_
    refine tt_icmp_ne hV rfl g11 (by decide) (pt := 159) (by decide) (pf := 130) rfl (fun hc => ?_) (fun hc => ?_)
    · replace h := h.1 hc
      refine r_iload hV rfl rfl (pc' := 161) rfl ?_
      refine tt_iconst hV rfl (pc' := 162) rfl ?_
      refine tt_icmp_ne hV rfl g11 (by decide) (pt := 177) (by decide) (pf := 165) rfl (fun hc => ?_) (fun hc => ?_)
      · replace h := h.1 hc
        refine tz_iinc3 hV rfl rfl (y := l3 - 1) (by clear h; omega) (pc' := 180) rfl ?_
        refine r_iload hV rfl rfl (pc' := 182) rfl ?_
        refine r_aload_n hV rfl rfl (pc' := 183) rfl ?_
        refine r_iload_n hV rfl rfl (pc' := 184) rfl ?_
        refine tt_iconst hV rfl (pc' := 185) rfl ?_
        refine tt_isub hV rfl (pc' := 186) rfl ?_
        refine vtI (y := l3 - 2) (by clear h; omega) ?_
        obtain ⟨g12, h⟩ := h
        refine q_iald hV rfl (hB _ _ rfl) (Nat.le_of_ble_eq_true rfl) rfl g12 (pc' := 187) rfl ?_
        obtain ⟨g13, h⟩ := h
        refine tt_i2l hV rfl g13 (pc' := 188) rfl ?_
        refine r_iload hV rfl rfl (pc' := 190) rfl ?_
        obtain ⟨g14, h⟩ := h
        refine tt_i2l hV rfl g14 (pc' := 191) rfl ?_
        obtain ⟨v191, m191, h, hr⟩ := h
        refine tt_cs3I hV rfl rfl rfl (Nat.le_of_ble_eq_true rfl) (Nat.le_of_ble_eq_true rfl) rfl hr (pc' := 194) rfl ?_
        refine tt_lstore8 hV rfl rfl (pc' := 196) rfl ?_
        refine r_aload_n hV rfl rfl (pc' := 197) rfl ?_
        refine r_iload_n hV rfl rfl (pc' := 198) rfl ?_
        refine tt_iconst hV rfl (pc' := 199) rfl ?_
        refine tt_isub hV rfl (pc' := 200) rfl ?_
        refine vtI (y := l3 - 2) (by clear h; omega) ?_
        refine r_lload hV rfl rfl (pc' := 202) rfl ?_
        refine v_ldc2 hV (Int64.ofInt 1000000) rfl rfl rfl (pc' := 205) rfl ?_
        obtain ⟨g15, h⟩ := h
        refine tt_lcmp hV rfl g15 (by decide) (pc' := 206) rfl ?_
        refine tt_if_le hV rfl (cmp3 _ _) (pt := 215) (by decide) (pf := 209) rfl (fun hc => ?_) (fun hc => ?_)
        · replace h := h.1 hc
          refine r_lload hV rfl rfl (pc' := 217) rfl ?_
          refine v_ldc2 hV (Int64.ofInt (-1000000)) rfl rfl rfl (pc' := 220) rfl ?_
          refine tt_lcmp hV rfl g15 (by decide) (pc' := 221) rfl ?_
          refine tt_if_ge hV rfl (cmp3 _ _) (pt := 230) (by decide) (pf := 224) rfl (fun hc => ?_) (fun hc => ?_)
          · replace h := h.1 hc
            refine r_lload hV rfl rfl (pc' := 232) rfl ?_
            refine tt_l2i hV rfl (pc' := 233) rfl ?_
            refine q_iast hV rfl (hB _ _ rfl) (Nat.le_of_ble_eq_true rfl) rfl g12 (pc' := 234) rfl ?_
            refine tt_iinc4 hV rfl rfl (pc' := 237) rfl ?_
            refine r_goto hV rfl (pc' := 5) (by decide) ?_
            exact h
          · replace h := h.2 (Int.not_le.mp hc)
            refine v_ldc2 hV (Int64.ofInt (-1000000)) rfl rfl rfl (pc' := 227) rfl ?_
            refine r_goto hV rfl (pc' := 232) (by decide) ?_
            refine tt_l2i hV rfl (pc' := 233) rfl ?_
            refine q_iast hV rfl (hB _ _ rfl) (Nat.le_of_ble_eq_true rfl) rfl g12 (pc' := 234) rfl ?_
            refine tt_iinc4 hV rfl rfl (pc' := 237) rfl ?_
            refine r_goto hV rfl (pc' := 5) (by decide) ?_
            exact h
        · replace h := h.2 (Int.not_le.mp hc)
          refine v_ldc2 hV (Int64.ofInt 1000000) rfl rfl rfl (pc' := 212) rfl ?_
          refine r_goto hV rfl (pc' := 232) (by decide) ?_
          refine tt_l2i hV rfl (pc' := 233) rfl ?_
          refine q_iast hV rfl (hB _ _ rfl) (Nat.le_of_ble_eq_true rfl) rfl g12 (pc' := 234) rfl ?_
          refine tt_iinc4 hV rfl rfl (pc' := 237) rfl ?_
          refine r_goto hV rfl (pc' := 5) (by decide) ?_
          exact h
      · replace h := h.2 (Decidable.not_not.mp hc)
        refine r_aload_n hV rfl rfl (pc' := 166) rfl ?_
        refine r_iload_n hV rfl rfl (pc' := 167) rfl ?_
        refine tt_iconst hV rfl (pc' := 168) rfl ?_
        refine tt_isub hV rfl (pc' := 169) rfl ?_
        refine tt_iconst hV rfl (pc' := 170) rfl ?_
        refine r_iload hV rfl rfl (pc' := 172) rfl ?_
        refine tt_isub hV rfl (pc' := 173) rfl ?_
        refine vtI (y := -m 20 (l3 - 1) + 1) (by clear h; omega) ?_
        refine q_iast hV rfl (hB _ _ rfl) (Nat.le_of_ble_eq_true rfl) rfl g10 (pc' := 174) rfl ?_
        refine r_goto hV rfl (pc' := 234) (by decide) ?_
        refine tt_iinc4 hV rfl rfl (pc' := 237) rfl ?_
        refine r_goto hV rfl (pc' := 5) (by decide) ?_
        exact h
    · replace h := h.2 (Decidable.not_not.mp hc)
      refine tz_iinc3 hV rfl rfl (y := l3 - 1) (by clear h; omega) (pc' := 133) rfl ?_
      refine r_iload hV rfl rfl (pc' := 135) rfl ?_
      obtain ⟨g16, h⟩ := h
      refine tt_if_ne hV rfl g16 (pt := 152) (by decide) (pf := 138) rfl (fun hc => ?_) (fun hc => ?_)
      · replace h := h.1 hc
        refine r_iload hV rfl rfl (pc' := 154) rfl ?_
        refine tt_istore4 hV rfl rfl (pc' := 156) rfl ?_
        refine r_goto hV rfl (pc' := 234) (by decide) ?_
        refine tt_iinc4 hV rfl rfl (pc' := 237) rfl ?_
        refine r_goto hV rfl (pc' := 5) (by decide) ?_
        exact h
      · replace h := h.2 (Decidable.not_not.mp hc)
        refine r_iload hV rfl rfl (pc' := 140) rfl ?_
        refine r_iload hV rfl rfl (pc' := 142) rfl ?_
        obtain ⟨g17, h⟩ := h
        obtain ⟨g18, h⟩ := h
        refine tt_icmp_le hV rfl g17 g18 (pt := 152) (by decide) (pf := 145) rfl (fun hc => ?_) (fun hc => ?_)
        · replace h := h.1 hc
          refine r_iload hV rfl rfl (pc' := 154) rfl ?_
          refine tt_istore4 hV rfl rfl (pc' := 156) rfl ?_
          refine r_goto hV rfl (pc' := 234) (by decide) ?_
          refine tt_iinc4 hV rfl rfl (pc' := 237) rfl ?_
          refine r_goto hV rfl (pc' := 5) (by decide) ?_
          exact h
        · replace h := h.2 (Int.not_le.mp hc)
          refine r_iload hV rfl rfl (pc' := 147) rfl ?_
          refine tt_iconst hV rfl (pc' := 148) rfl ?_
          refine tt_isub hV rfl (pc' := 149) rfl ?_
          refine r_goto hV rfl (pc' := 154) (by decide) ?_
          refine tt_istore4 hV rfl rfl (pc' := 156) rfl ?_
          refine r_goto hV rfl (pc' := 234) (by decide) ?_
          refine tz_iinc4 hV rfl rfl (y := l6) (by clear h; omega) (pc' := 237) rfl ?_
          refine r_goto hV rfl (pc' := 5) (by decide) ?_
          exact h
  · replace h := h.2 (Decidable.not_not.mp hc)
    refine r_iload hV rfl rfl (pc' := 123) rfl ?_
    exact rq_ret (q := mI35) rfl rfl rfl h
theorem W_joinedw {X : Cx} {d : Nat} {x : Int} {y : Int} {z : Int} {m : Mm} {Q : Int → Mm → Prop} (hB : Bsh X.2.2.1) (h : (-2147483648 ≤ x ∧ x < 2147483648) ∧ (x = 5 → Q (y + z) m) ∧ (x = 6 → Q (y - z) m) ∧ (x = 7 → Q (y * z) m) ∧ (x = 8 → (-9223372036854775808 ≤ z ∧ z < 9223372036854775808) ∧ ((if 0 < z then 1 else if z = 0 then 0 else -1) ≠ 0 → (¬ Int64.ofInt z = 0) ∧ Q (jDv y z) m) ∧ ((if 0 < z then 1 else if z = 0 then 0 else -1) = 0 → Q 0 m)) ∧ (x = 9 → (-9223372036854775808 ≤ y ∧ y < 9223372036854775808) ∧ (-9223372036854775808 ≤ z ∧ z < 9223372036854775808) ∧ ((if z < y then 1 else if y = z then 0 else -1) ≠ 0 → Q 0 m) ∧ ((if z < y then 1 else if y = z then 0 else -1) = 0 → Q 1 m)) ∧ (x = 10 → (-9223372036854775808 ≤ y ∧ y < 9223372036854775808) ∧ (-9223372036854775808 ≤ z ∧ z < 9223372036854775808) ∧ (0 ≤ (if z < y then 1 else if y = z then 0 else -1) → Q 0 m) ∧ ((if z < y then 1 else if y = z then 0 else -1) < 0 → Q 1 m)) ∧ (x = 11 → (-9223372036854775808 ≤ y ∧ y < 9223372036854775808) ∧ (-9223372036854775808 ≤ z ∧ z < 9223372036854775808) ∧ ((if z < y then 1 else if y = z then 0 else -1) ≤ 0 → Q 0 m) ∧ (0 < (if z < y then 1 else if y = z then 0 else -1) → Q 1 m)) ∧ (x = 12 → Q (jA y z) m) ∧ (x ≠ 5 ∧ x ≠ 6 ∧ x ≠ 7 ∧ x ≠ 8 ∧ x ≠ 9 ∧ x ≠ 10 ∧ x ≠ 11 ∧ x ≠ 12 → Q (jO y z) m)) : W_joined X d x y z m Q := by
  unfold W_joined
  have hV : Clo (gP X.1 X.2.1) d 36 5 false (Rj (gP X.1 X.2.1) d 36 X.2.2.1 X.2.2.2 Q) := Rj_clo (q := mI36) rfl
  refine r_iload_n hV rfl rfl (pc' := 1) rfl ?_
  obtain ⟨g1, h⟩ := h
  by_cases hc : x = 5
  · replace h := h.1 hc
    refine r_sw hV (pc' := 48) rfl (by decide) (by rw [hc]; rfl) ?_
    refine r_lload_n hV rfl rfl (pc' := 49) rfl ?_
    refine r_lload_n hV rfl rfl (pc' := 50) rfl ?_
    refine tt_ladd hV rfl (pc' := 51) rfl ?_
    exact rj_ret (q := mI36) rfl rfl rfl h
  have hc2_0 := hc
  clear hc
  by_cases hc : x = 6
  · replace h := h.2.1 hc
    refine r_sw hV (pc' := 52) rfl (by decide) (by rw [hc]; rfl) ?_
    refine r_lload_n hV rfl rfl (pc' := 53) rfl ?_
    refine r_lload_n hV rfl rfl (pc' := 54) rfl ?_
    refine tt_lsub hV rfl (pc' := 55) rfl ?_
    exact rj_ret (q := mI36) rfl rfl rfl h
  have hc2_1 := hc
  clear hc
  by_cases hc : x = 7
  · replace h := h.2.2.1 hc
    refine r_sw hV (pc' := 56) rfl (by decide) (by rw [hc]; rfl) ?_
    refine r_lload_n hV rfl rfl (pc' := 57) rfl ?_
    refine r_lload_n hV rfl rfl (pc' := 58) rfl ?_
    refine tt_lmul hV rfl (pc' := 59) rfl ?_
    exact rj_ret (q := mI36) rfl rfl rfl h
  have hc2_2 := hc
  clear hc
  by_cases hc : x = 8
  · replace h := h.2.2.2.1 hc
    refine r_sw hV (pc' := 60) rfl (by decide) (by rw [hc]; rfl) ?_
    refine r_lload_n hV rfl rfl (pc' := 61) rfl ?_
    refine tt_lconst hV (z := 0) rfl (by decide) (pc' := 62) rfl ?_
    obtain ⟨g3, h⟩ := h
    refine tt_lcmp hV rfl g3 (by decide) (pc' := 63) rfl ?_
    refine tt_if_ne hV rfl (cmp3 _ _) (pt := 70) (by decide) (pf := 66) rfl (fun hc => ?_) (fun hc => ?_)
    · replace h := h.1 hc
      refine r_lload_n hV rfl rfl (pc' := 71) rfl ?_
      refine r_lload_n hV rfl rfl (pc' := 72) rfl ?_
      obtain ⟨g4, h⟩ := h
      refine tt_ldiv hV rfl g4 (pc' := 73) rfl ?_
      exact rj_ret (q := mI36) rfl rfl rfl h
    · replace h := h.2 (Decidable.not_not.mp hc)
      refine tt_lconst hV (z := 0) rfl (by decide) (pc' := 67) rfl ?_
      refine r_goto hV rfl (pc' := 73) (by decide) ?_
      exact rj_ret (q := mI36) rfl rfl rfl h
  have hc2_3 := hc
  clear hc
  by_cases hc : x = 9
  · replace h := h.2.2.2.2.1 hc
    refine r_sw hV (pc' := 74) rfl (by decide) (by rw [hc]; rfl) ?_
    refine r_lload_n hV rfl rfl (pc' := 75) rfl ?_
    refine r_lload_n hV rfl rfl (pc' := 76) rfl ?_
    obtain ⟨g5, h⟩ := h
    obtain ⟨g6, h⟩ := h
    refine tt_lcmp hV rfl g5 g6 (pc' := 77) rfl ?_
    refine tt_if_ne hV rfl (cmp3 _ _) (pt := 84) (by decide) (pf := 80) rfl (fun hc => ?_) (fun hc => ?_)
    · replace h := h.1 hc
      refine tt_lconst hV (z := 0) rfl (by decide) (pc' := 85) rfl ?_
      exact rj_ret (q := mI36) rfl rfl rfl h
    · replace h := h.2 (Decidable.not_not.mp hc)
      refine tt_lconst hV (z := 1) rfl (by decide) (pc' := 81) rfl ?_
      refine r_goto hV rfl (pc' := 85) (by decide) ?_
      exact rj_ret (q := mI36) rfl rfl rfl h
  have hc2_4 := hc
  clear hc
  by_cases hc : x = 10
  · replace h := h.2.2.2.2.2.1 hc
    refine r_sw hV (pc' := 86) rfl (by decide) (by rw [hc]; rfl) ?_
    refine r_lload_n hV rfl rfl (pc' := 87) rfl ?_
    refine r_lload_n hV rfl rfl (pc' := 88) rfl ?_
    obtain ⟨g7, h⟩ := h
    obtain ⟨g8, h⟩ := h
    refine tt_lcmp hV rfl g7 g8 (pc' := 89) rfl ?_
    refine tt_if_ge hV rfl (cmp3 _ _) (pt := 96) (by decide) (pf := 92) rfl (fun hc => ?_) (fun hc => ?_)
    · replace h := h.1 hc
      refine tt_lconst hV (z := 0) rfl (by decide) (pc' := 97) rfl ?_
      exact rj_ret (q := mI36) rfl rfl rfl h
    · replace h := h.2 (Int.not_le.mp hc)
      refine tt_lconst hV (z := 1) rfl (by decide) (pc' := 93) rfl ?_
      refine r_goto hV rfl (pc' := 97) (by decide) ?_
      exact rj_ret (q := mI36) rfl rfl rfl h
  have hc2_5 := hc
  clear hc
  by_cases hc : x = 11
  · replace h := h.2.2.2.2.2.2.1 hc
    refine r_sw hV (pc' := 98) rfl (by decide) (by rw [hc]; rfl) ?_
    refine r_lload_n hV rfl rfl (pc' := 99) rfl ?_
    refine r_lload_n hV rfl rfl (pc' := 100) rfl ?_
    obtain ⟨g9, h⟩ := h
    obtain ⟨g10, h⟩ := h
    refine tt_lcmp hV rfl g9 g10 (pc' := 101) rfl ?_
    refine tt_if_le hV rfl (cmp3 _ _) (pt := 108) (by decide) (pf := 104) rfl (fun hc => ?_) (fun hc => ?_)
    · replace h := h.1 hc
      refine tt_lconst hV (z := 0) rfl (by decide) (pc' := 109) rfl ?_
      exact rj_ret (q := mI36) rfl rfl rfl h
    · replace h := h.2 (Int.not_le.mp hc)
      refine tt_lconst hV (z := 1) rfl (by decide) (pc' := 105) rfl ?_
      refine r_goto hV rfl (pc' := 109) (by decide) ?_
      exact rj_ret (q := mI36) rfl rfl rfl h
  have hc2_6 := hc
  clear hc
  by_cases hc : x = 12
  · replace h := h.2.2.2.2.2.2.2.1 hc
    refine r_sw hV (pc' := 110) rfl (by decide) (by rw [hc]; rfl) ?_
    refine r_lload_n hV rfl rfl (pc' := 111) rfl ?_
    refine r_lload_n hV rfl rfl (pc' := 112) rfl ?_
    refine tt_land hV rfl (pc' := 113) rfl ?_
    exact rj_ret (q := mI36) rfl rfl rfl h
  have hc2_7 := hc
  clear hc
  replace h := h.2.2.2.2.2.2.2.2 ⟨hc2_0, hc2_1, hc2_2, hc2_3, hc2_4, hc2_5, hc2_6, hc2_7⟩
  refine r_sw hV (pc' := 114) rfl (by decide) ?_ ?_
  · exact sw_tab g1 (by clear h; omega) (by decide)
  refine r_lload_n hV rfl rfl (pc' := 115) rfl ?_
  refine r_lload_n hV rfl rfl (pc' := 116) rfl ?_
  refine tt_lor hV rfl (pc' := 117) rfl ?_
  exact rj_ret (q := mI36) rfl rfl rfl h
theorem P_readw {X : Cx} {d : Nat} {m : Mm} {Q : Int → Mm → Prop} (hB : Bsh X.2.2.1) (h : P_read_12 X (d + 1) 0 (up (up m 6 3 0) 6 2 0) Q) : P_read X (d + 1) m Q := by
  unfold P_read
  have hV : Clo (gP X.1 X.2.1) (d + 1) 38 2 false (Rq (gP X.1 X.2.1) (d + 1) 38 X.2.2.1 X.2.2.2 Q) := Rq_clo (q := mI38) rfl
  refine r_aload_n hV rfl rfl (pc' := 1) rfl ?_
  refine tt_iconst hV rfl (pc' := 2) rfl ?_
  refine tt_putI hV (tg := 0) (ci := 5) (kf := 3) rfl rfl (Or.inl rfl) (hB _ _ rfl) rfl (by decide) rfl (pc' := 5) rfl ?_
  refine r_aload_n hV rfl rfl (pc' := 6) rfl ?_
  refine tt_iconst hV rfl (pc' := 7) rfl ?_
  refine tt_putI hV (tg := 0) (ci := 5) (kf := 2) rfl rfl (Or.inl rfl) (hB _ _ rfl) rfl (by decide) rfl (pc' := 10) rfl ?_
  refine tt_iconst hV rfl (pc' := 11) rfl ?_
  refine tt_istore1 hV rfl rfl (pc' := 12) rfl ?_
  exact h
theorem P_read_12w {X : Cx} {d : Nat} {l1 : Int} {m : Mm} {Q : Int → Mm → Prop} (hB : Bsh X.2.2.1) (h : (-2147483648 ≤ l1 ∧ l1 < 2147483648) ∧ (240 < l1 → Q (m 6 3) m) ∧ (l1 ≤ 240 → P_readClause X d m (fun v20 m20 => (-2147483648 ≤ v20 ∧ v20 < 2147483648) ∧ (v20 ≠ 0 → P_comingSign X d m20 (fun v32 m32 => (-2147483648 ≤ v32 ∧ v32 < 2147483648) ∧ (v32 ≠ 0 → P_passes X d 59 m32 (fun v43 m43 => (-2147483648 ≤ v43 ∧ v43 < 2147483648) ∧ (v43 ≠ 0 → P_read_12 X (d + 1) (l1 + 1) m43 Q) ∧ (v43 = 0 → Q (m43 6 3) m43))) ∧ (v32 = 0 → Q (-1) m32))) ∧ (v20 = 0 → Q (m20 6 3) m20)))) : P_read_12 X (d + 1) l1 m Q := by
  unfold P_read_12
  have hV : Clo (gP X.1 X.2.1) (d + 1) 38 2 false (Rq (gP X.1 X.2.1) (d + 1) 38 X.2.2.1 X.2.2.2 Q) := Rq_clo (q := mI38) rfl
  refine r_iload_n hV rfl rfl (pc' := 13) rfl ?_
  refine tt_sipush hV rfl (by decide) (pc' := 16) rfl ?_
  obtain ⟨g1, h⟩ := h
  refine tt_icmp_gt hV rfl g1 (by decide) (pt := 60) (by decide) (pf := 19) rfl (fun hc => ?_) (fun hc => ?_)
  · replace h := h.1 hc
    refine r_aload_n hV rfl rfl (pc' := 61) rfl ?_
    refine tt_getI hV (tg := 0) (ci := 5) (kf := 3) rfl rfl (by decide) (hB _ _ rfl) rfl (by decide) (pc' := 64) rfl ?_
    exact rq_ret (q := mI38) rfl rfl rfl h
  · replace h := h.2 (Int.not_lt.mp hc)
    refine r_aload_n hV rfl rfl (pc' := 20) rfl ?_
    obtain ⟨v20, m20, h, hr⟩ := h
    refine tt_cv0I hV rfl rfl rfl (Wd_obj (hB _ _ rfl)) (Nat.le_of_ble_eq_true rfl) (Nat.le_of_ble_eq_true rfl) rfl hr (pc' := 23) rfl ?_
    obtain ⟨g2, h⟩ := h
    refine tt_if_ne hV rfl g2 (pt := 31) (by decide) (pf := 26) rfl (fun hc => ?_) (fun hc => ?_)
    · replace h := h.1 hc
      refine r_aload_n hV rfl rfl (pc' := 32) rfl ?_
      obtain ⟨v32, m32, h, hr⟩ := h
      refine tt_cv0I hV rfl rfl rfl (Wd_obj (hB _ _ rfl)) (Nat.le_of_ble_eq_true rfl) (Nat.le_of_ble_eq_true rfl) rfl hr (pc' := 35) rfl ?_
      obtain ⟨g3, h⟩ := h
      refine tt_if_ne hV rfl g3 (pt := 40) (by decide) (pf := 38) rfl (fun hc => ?_) (fun hc => ?_)
      · replace h := h.1 hc
        refine r_aload_n hV rfl rfl (pc' := 41) rfl ?_
        refine tt_bipush hV rfl (by decide) (pc' := 43) rfl ?_
        obtain ⟨v43, m43, h, hr⟩ := h
        refine tt_cv1I hV rfl rfl rfl (Wd_obj (hB _ _ rfl)) (Nat.le_of_ble_eq_true rfl) (Nat.le_of_ble_eq_true rfl) rfl hr (pc' := 46) rfl ?_
        obtain ⟨g4, h⟩ := h
        refine tt_if_ne hV rfl g4 (pt := 54) (by decide) (pf := 49) rfl (fun hc => ?_) (fun hc => ?_)
        · replace h := h.1 hc
          refine tt_iinc1 hV rfl rfl (pc' := 57) rfl ?_
          refine r_goto hV rfl (pc' := 12) (by decide) ?_
          exact h
        · replace h := h.2 (Decidable.not_not.mp hc)
          refine r_aload_n hV rfl rfl (pc' := 50) rfl ?_
          refine tt_getI hV (tg := 0) (ci := 5) (kf := 3) rfl rfl (by decide) (hB _ _ rfl) rfl (by decide) (pc' := 53) rfl ?_
          exact rq_ret (q := mI38) rfl rfl rfl h
      · replace h := h.2 (Decidable.not_not.mp hc)
        refine tt_iconst hV rfl (pc' := 39) rfl ?_
        exact rq_ret (q := mI38) rfl rfl rfl h
    · replace h := h.2 (Decidable.not_not.mp hc)
      refine r_aload_n hV rfl rfl (pc' := 27) rfl ?_
      refine tt_getI hV (tg := 0) (ci := 5) (kf := 3) rfl rfl (by decide) (hB _ _ rfl) rfl (by decide) (pc' := 30) rfl ?_
      exact rq_ret (q := mI38) rfl rfl rfl h
