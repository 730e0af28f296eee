/-! ===== what is wanted at a place ===== -/
theorem O_gainOfw {X : Cx} {d : Nat} {x : Int} {y : Int} {z : Int} {m : Mm} {Q : Int → Mm → Prop} (hB : Bsh X.2.2.1) (h : (0 ≤ 9 * x + 3 * y + z ∧ 9 * x + 3 * y + z < 18) ∧ Q (m 72 (9 * x + 3 * y + z)) m) : O_gainOf X d x y z m Q := by
  unfold O_gainOf
  have hV : Clo (gP X.1 X.2.1) d 65 4 false (Rq (gP X.1 X.2.1) d 65 X.2.2.1 X.2.2.2 Q) := Rq_clo (q := mI65) rfl
  refine r_aload_n hV rfl rfl (pc' := 1) rfl ?_
  refine tt_getR hV (tg := 6) (ci := 6) (kf := 7) rfl rfl (by decide) (hB _ _ rfl) rfl (by decide) (pc' := 4) rfl ?_
  refine r_iload_n hV rfl rfl (pc' := 5) rfl ?_
  refine tt_bipush hV rfl (by decide) (pc' := 7) rfl ?_
  refine tt_imul hV rfl (pc' := 8) rfl ?_
  refine vtI (y := 9 * x) (by clear h; omega) ?_
  refine r_iload_n hV rfl rfl (pc' := 9) rfl ?_
  refine tt_iconst hV rfl (pc' := 10) rfl ?_
  refine tt_imul hV rfl (pc' := 11) rfl ?_
  refine vtI (y := 3 * y) (by clear h; omega) ?_
  refine tt_iadd hV rfl (pc' := 12) rfl ?_
  refine vtI (y := 9 * x + 3 * y) (by clear h; omega) ?_
  refine r_iload_n hV rfl rfl (pc' := 13) rfl ?_
  refine tt_iadd hV rfl (pc' := 14) rfl ?_
  obtain ⟨g1, h⟩ := h
  refine q_iald hV rfl (hB _ _ rfl) (Nat.le_of_ble_eq_true rfl) rfl g1 (pc' := 15) rfl ?_
  exact rq_ret (q := mI65) rfl rfl rfl h
theorem O_listRestsw {X : Cx} {d : Nat} {m : Mm} {Q : Mm → Prop} (hB : Bsh X.2.2.1) (h : O_listRests_10 X (d + 1) 0 none (up m 67 1 0) Q) : O_listRests X (d + 1) m Q := by
  unfold O_listRests
  have hV : Clo (gP X.1 X.2.1) (d + 1) 66 3 false (Ru0 (gP X.1 X.2.1) (d + 1) 66 X.2.2.1 X.2.2.2 Q) := Ru0_clo (q := mI66) rfl
  refine r_aload_n hV rfl rfl (pc' := 1) rfl ?_
  refine tt_getR hV (tg := 6) (ci := 6) (kf := 0) rfl rfl (by decide) (hB _ _ rfl) rfl (by decide) (pc' := 4) rfl ?_
  refine tt_iconst hV rfl (pc' := 5) rfl ?_
  refine tt_putI hV (tg := 0) (ci := 2) (kf := 1) rfl rfl (Or.inl rfl) (hB _ _ rfl) rfl (by decide) rfl (pc' := 8) rfl ?_
  refine tt_iconst hV rfl (pc' := 9) rfl ?_
  refine tt_istore1 hV rfl rfl (pc' := 10) rfl ?_
  exact h
theorem O_listRests_10w {X : Cx} {d : Nat} {l1 : Int} {o2 : Option Int} {m : Mm} {Q : Mm → Prop} (hB : Bsh X.2.2.1) (h : (-2147483648 ≤ l1 ∧ l1 < 2147483648) ∧ (3 ≤ l1 → Q m) ∧ (l1 < 3 → O_listRests_17 X (d + 1) l1 0 m Q)) : O_listRests_10 X (d + 1) l1 o2 m Q := by
  unfold O_listRests_10
  have hV : Clo (gP X.1 X.2.1) (d + 1) 66 3 false (Ru0 (gP X.1 X.2.1) (d + 1) 66 X.2.2.1 X.2.2.2 Q) := Ru0_clo (q := mI66) rfl
  refine r_iload_n hV rfl rfl (pc' := 11) rfl ?_
  refine tt_iconst hV rfl (pc' := 12) rfl ?_
  obtain ⟨g1, h⟩ := h
  refine tt_icmp_ge hV rfl g1 (by decide) (pt := 56) (by decide) (pf := 15) rfl (fun hc => ?_) (fun hc => ?_)
  · replace h := h.1 hc
    exact ru0_ret (q := mI66) rfl rfl rfl h
  · replace h := h.2 (Int.not_le.mp hc)
    refine tt_iconst hV rfl (pc' := 16) rfl ?_
    refine tt_istore2 hV rfl rfl (pc' := 17) rfl ?_
    exact h
theorem O_listRests_17w {X : Cx} {d : Nat} {l1 : Int} {l2 : Int} {m : Mm} {Q : Mm → Prop} (hB : Bsh X.2.2.1) (h : (-2147483648 ≤ l2 ∧ l2 < 2147483648) ∧ (3 ≤ l2 → O_listRests_10 X (d + 1) (l1 + 1) (some l2) m Q) ∧ (l2 < 3 → O_isRest X d l1 l2 m (fun v25 m25 => (-2147483648 ≤ v25 ∧ v25 < 2147483648) ∧ (v25 = 0 → O_listRests_17 X (d + 1) l1 (l2 + 1) m25 Q) ∧ (v25 ≠ 0 → F_add X d 67 (10 * l1 + l2) m25 (fun m41 => O_listRests_17 X (d + 1) l1 (l2 + 1) m41 Q))))) : O_listRests_17 X (d + 1) l1 l2 m Q := by
  unfold O_listRests_17
  have hV : Clo (gP X.1 X.2.1) (d + 1) 66 3 false (Ru0 (gP X.1 X.2.1) (d + 1) 66 X.2.2.1 X.2.2.2 Q) := Ru0_clo (q := mI66) rfl
  refine r_iload_n hV rfl rfl (pc' := 18) rfl ?_
  refine tt_iconst hV rfl (pc' := 19) rfl ?_
  obtain ⟨g2, h⟩ := h
  refine tt_icmp_ge hV rfl g2 (by decide) (pt := 50) (by decide) (pf := 22) rfl (fun hc => ?_) (fun hc => ?_)
  · replace h := h.1 hc
    refine tt_iinc1 hV rfl rfl (pc' := 53) rfl ?_
    refine r_goto hV rfl (pc' := 10) (by decide) ?_
    exact h
  · replace h := h.2 (Int.not_le.mp hc)
    refine r_aload_n hV rfl rfl (pc' := 23) rfl ?_
    refine r_iload_n hV rfl rfl (pc' := 24) rfl ?_
    refine r_iload_n hV rfl rfl (pc' := 25) rfl ?_
    obtain ⟨v25, m25, h, hr⟩ := h
    refine tt_cv2I hV rfl rfl rfl (Wd_obj (hB _ _ rfl)) (Nat.le_of_ble_eq_true rfl) (Nat.le_of_ble_eq_true rfl) rfl hr (pc' := 28) rfl ?_
    obtain ⟨g3, h⟩ := h
    refine tt_if_eq hV rfl g3 (pt := 44) (by decide) (pf := 31) rfl (fun hc => ?_) (fun hc => ?_)
    · replace h := h.1 hc
      refine tt_iinc2 hV rfl rfl (pc' := 47) rfl ?_
      refine r_goto hV rfl (pc' := 17) (by decide) ?_
      exact h
    · replace h := h.2 hc
      refine r_aload_n hV rfl rfl (pc' := 32) rfl ?_
      refine tt_getR hV (tg := 6) (ci := 6) (kf := 0) rfl rfl (by decide) (hB _ _ rfl) rfl (by decide) (pc' := 35) rfl ?_
      refine tt_bipush hV rfl (by decide) (pc' := 37) rfl ?_
      refine r_iload_n hV rfl rfl (pc' := 38) rfl ?_
      refine tt_imul hV rfl (pc' := 39) rfl ?_
      refine r_iload_n hV rfl rfl (pc' := 40) rfl ?_
      refine tt_iadd hV rfl (pc' := 41) rfl ?_
      obtain ⟨m41, h, hr⟩ := h
      refine tt_cv1U hV rfl rfl rfl (Wd_obj (hB _ _ rfl)) (Nat.le_of_ble_eq_true rfl) (Nat.le_of_ble_eq_true rfl) rfl hr (pc' := 44) rfl ?_
      refine tt_iinc2 hV rfl rfl (pc' := 47) rfl ?_
      refine r_goto hV rfl (pc' := 17) (by decide) ?_
      exact h
theorem O_isRestw {X : Cx} {d : Nat} {x : Int} {y : Int} {m : Mm} {Q : Int → Mm → Prop} (hB : Bsh X.2.2.1) (h : O_isRest_2 X (d + 1) x y 0 m Q) : O_isRest X (d + 1) x y m Q := by
  unfold O_isRest
  have hV : Clo (gP X.1 X.2.1) (d + 1) 67 4 false (Rq (gP X.1 X.2.1) (d + 1) 67 X.2.2.1 X.2.2.2 Q) := Rq_clo (q := mI67) rfl
  refine tt_iconst hV rfl (pc' := 1) rfl ?_
  refine tt_istore3 hV rfl rfl (pc' := 2) rfl ?_
  exact h
theorem O_isRest_2w {X : Cx} {d : Nat} {x : Int} {y : Int} {l3 : Int} {m : Mm} {Q : Int → Mm → Prop} (hB : Bsh X.2.2.1) (h : (-2147483648 ≤ l3 ∧ l3 < 2147483648) ∧ (3 ≤ l3 → Q 1 m) ∧ (l3 < 3 → O_gainOf X d 0 l3 y m (fun v11 m11 => O_gainOf X d 0 x y m11 (fun v18 m18 => (-2147483648 ≤ v11 ∧ v11 < 2147483648) ∧ (-2147483648 ≤ v18 ∧ v18 < 2147483648) ∧ (v18 < v11 → Q 0 m18) ∧ (v11 ≤ v18 → O_gainOf X d 1 x l3 m18 (fun v28 m28 => O_gainOf X d 1 x y m28 (fun v35 m35 => (-2147483648 ≤ v28 ∧ v28 < 2147483648) ∧ (-2147483648 ≤ v35 ∧ v35 < 2147483648) ∧ (v28 ≤ v35 → O_isRest_2 X (d + 1) x y (l3 + 1) m35 Q) ∧ (v35 < v28 → Q 0 m35)))))))) : O_isRest_2 X (d + 1) x y l3 m Q := by
  unfold O_isRest_2
  have hV : Clo (gP X.1 X.2.1) (d + 1) 67 4 false (Rq (gP X.1 X.2.1) (d + 1) 67 X.2.2.1 X.2.2.2 Q) := Rq_clo (q := mI67) rfl
  refine r_iload_n hV rfl rfl (pc' := 3) rfl ?_
  refine tt_iconst hV rfl (pc' := 4) rfl ?_
  obtain ⟨g1, h⟩ := h
  refine tt_icmp_ge hV rfl g1 (by decide) (pt := 49) (by decide) (pf := 7) rfl (fun hc => ?_) (fun hc => ?_)
  · replace h := h.1 hc
    refine tt_iconst hV rfl (pc' := 50) rfl ?_
    exact rq_ret (q := mI67) rfl rfl rfl h
  · replace h := h.2 (Int.not_le.mp hc)
    refine r_aload_n hV rfl rfl (pc' := 8) rfl ?_
    refine tt_iconst hV rfl (pc' := 9) rfl ?_
    refine r_iload_n hV rfl rfl (pc' := 10) rfl ?_
    refine r_iload_n hV rfl rfl (pc' := 11) rfl ?_
    obtain ⟨v11, m11, h, hr⟩ := h
    refine tt_cv3I hV rfl rfl rfl (Wd_obj (hB _ _ rfl)) (Nat.le_of_ble_eq_true rfl) (Nat.le_of_ble_eq_true rfl) rfl hr (pc' := 14) rfl ?_
    refine r_aload_n hV rfl rfl (pc' := 15) rfl ?_
    refine tt_iconst hV rfl (pc' := 16) rfl ?_
    refine r_iload_n hV rfl rfl (pc' := 17) rfl ?_
    refine r_iload_n hV rfl rfl (pc' := 18) rfl ?_
    obtain ⟨v18, m18, h, hr⟩ := h
    refine tt_cv3I hV rfl rfl rfl (Wd_obj (hB _ _ rfl)) (Nat.le_of_ble_eq_true rfl) (Nat.le_of_ble_eq_true rfl) rfl hr (pc' := 21) rfl ?_
    obtain ⟨g2, h⟩ := h
    obtain ⟨g3, h⟩ := h
    refine tt_icmp_gt hV rfl g2 g3 (pt := 41) (by decide) (pf := 24) rfl (fun hc => ?_) (fun hc => ?_)
    · replace h := h.1 hc
      refine tt_iconst hV rfl (pc' := 42) rfl ?_
      exact rq_ret (q := mI67) rfl rfl rfl h
    · replace h := h.2 (Int.not_lt.mp hc)
      refine r_aload_n hV rfl rfl (pc' := 25) rfl ?_
      refine tt_iconst hV rfl (pc' := 26) rfl ?_
      refine r_iload_n hV rfl rfl (pc' := 27) rfl ?_
      refine r_iload_n hV rfl rfl (pc' := 28) rfl ?_
      obtain ⟨v28, m28, h, hr⟩ := h
      refine tt_cv3I hV rfl rfl rfl (Wd_obj (hB _ _ rfl)) (Nat.le_of_ble_eq_true rfl) (Nat.le_of_ble_eq_true rfl) rfl hr (pc' := 31) rfl ?_
      refine r_aload_n hV rfl rfl (pc' := 32) rfl ?_
      refine tt_iconst hV rfl (pc' := 33) rfl ?_
      refine r_iload_n hV rfl rfl (pc' := 34) rfl ?_
      refine r_iload_n hV rfl rfl (pc' := 35) rfl ?_
      obtain ⟨v35, m35, h, hr⟩ := h
      refine tt_cv3I hV rfl rfl rfl (Wd_obj (hB _ _ rfl)) (Nat.le_of_ble_eq_true rfl) (Nat.le_of_ble_eq_true rfl) rfl hr (pc' := 38) rfl ?_
      obtain ⟨g4, h⟩ := h
      obtain ⟨g5, h⟩ := h
      refine tt_icmp_le hV rfl g4 g5 (pt := 43) (by decide) (pf := 41) rfl (fun hc => ?_) (fun hc => ?_)
      · replace h := h.1 hc
        refine tt_iinc3 hV rfl rfl (pc' := 46) rfl ?_
        refine r_goto hV rfl (pc' := 2) (by decide) ?_
        exact h
      · replace h := h.2 (Int.not_le.mp hc)
        refine tt_iconst hV rfl (pc' := 42) rfl ?_
        exact rq_ret (q := mI67) rfl rfl rfl h
theorem O_rowOfKnowingw {X : Cx} {d : Nat} {x : Int} {y : Int} {m : Mm} {Q : Int → Mm → Prop} (hB : Bsh X.2.2.1) (h : O_rowOfKnowing_6 X (d + 1) x y y 0 none none m Q) : O_rowOfKnowing X (d + 1) x y m Q := by
  unfold O_rowOfKnowing
  have hV : Clo (gP X.1 X.2.1) (d + 1) 68 8 false (Rq (gP X.1 X.2.1) (d + 1) 68 X.2.2.1 X.2.2.2 Q) := Rq_clo (q := mI68) rfl
  refine r_iload_n hV rfl rfl (pc' := 1) rfl ?_
  refine tt_istore4 hV rfl rfl (pc' := 3) rfl ?_
  refine tt_iconst hV rfl (pc' := 4) rfl ?_
  refine tt_istore5 hV rfl rfl (pc' := 6) rfl ?_
  exact h
theorem O_rowOfKnowing_6w {X : Cx} {d : Nat} {x : Int} {y : Int} {l4 : Int} {l5 : Int} {o6 : Option Int} {o7 : Option Int} {m : Mm} {Q : Int → Mm → Prop} (hB : Bsh X.2.2.1) (h : ∃ c : Nat, cO c ∧ (m 18 0 = (c : Int)) ∧ (-2147483648 ≤ l5 ∧ l5 < 2147483648) ∧ (-2147483648 ≤ (m c 4) ∧ (m c 4) < 2147483648) ∧ (m c 4 ≤ l5 → (-2147483648 ≤ l4 ∧ l4 < 2147483648) ∧ (-2147483648 ≤ y ∧ y < 2147483648) ∧ (y ≤ l4 → Q (-1) m) ∧ (l4 < y → Q l4 m)) ∧ (l5 < m c 4 → T_seatOf X d 17 x m (fun v23 m23 => T_seatOf X d 17 l5 m23 (fun v29 m29 => T_isAboard X d 17 l5 m29 (fun v38 m38 => (-2147483648 ≤ v38 ∧ v38 < 2147483648) ∧ (v38 = 0 → O_rowOfKnowing_6 X (d + 1) x y l4 (l5 + 1) (some (v23 - v29)) o7 m38 Q) ∧ (v38 ≠ 0 → (-2147483648 ≤ (v23 - v29) ∧ (v23 - v29) < 2147483648) ∧ (v23 - v29 < 0 → O_rowOfKnowing_6 X (d + 1) x y l4 (l5 + 1) (some (v23 - v29)) o7 m38 Q) ∧ (0 ≤ v23 - v29 → (m38 18 0 = (c : Int)) ∧ K_sightOf X d c l5 m38 (fun v63 m63 => (-2147483648 ≤ (m38 17 7) ∧ (m38 17 7) < 2147483648) ∧ (-2147483648 ≤ (y - v63) ∧ (y - v63) < 2147483648) ∧ (-2147483648 ≤ l4 ∧ l4 < 2147483648) ∧ (-2147483648 ≤ ((max (m38 17 7) (y - v63)) + v23 - v29) ∧ ((max (m38 17 7) (y - v63)) + v23 - v29) < 2147483648) ∧ O_rowOfKnowing_6 X (d + 1) x y ((min l4 ((max (m38 17 7) (y - v63)) + v23 - v29))) (l5 + 1) (some (v23 - v29)) (some ((max (m38 17 7) (y - v63)))) m63 Q)))))))) : O_rowOfKnowing_6 X (d + 1) x y l4 l5 o6 o7 m Q := by
  unfold O_rowOfKnowing_6
  have hV : Clo (gP X.1 X.2.1) (d + 1) 68 8 false (Rq (gP X.1 X.2.1) (d + 1) 68 X.2.2.1 X.2.2.2 Q) := Rq_clo (q := mI68) rfl
  refine r_iload hV rfl rfl (pc' := 8) rfl ?_
  refine r_aload_n hV rfl rfl (pc' := 9) rfl ?_
  refine tt_getR hV (tg := 6) (ci := 6) (kf := 3) rfl rfl (by decide) (hB _ _ rfl) rfl (by decide) (pc' := 12) rfl ?_
  obtain ⟨c, hc, h⟩ := h
  have hcs := csh_of hB hc
  obtain ⟨g1, h⟩ := h
  refine tt_getP hV (tg := 0) (ci := 7) (kf := 0) rfl rfl (by decide) (hB _ _ rfl) rfl (by decide) (b := c) g1 (pc' := 15) rfl ?_
  refine tt_getI hV (tg := 0) (ci := 0) (kf := 4) rfl rfl (by decide) hcs.1 rfl (by decide) (pc' := 18) rfl ?_
  obtain ⟨g2, h⟩ := h
  obtain ⟨g3, h⟩ := h
  refine tt_icmp_ge hV rfl g2 g3 (pt := 90) (by decide) (pf := 21) rfl (fun hc => ?_) (fun hc => ?_)
  · replace h := h.1 hc
    refine r_iload hV rfl rfl (pc' := 92) rfl ?_
    refine r_iload_n hV rfl rfl (pc' := 93) rfl ?_
    obtain ⟨g4, h⟩ := h
    obtain ⟨g5, h⟩ := h
    refine tt_icmp_ge hV rfl g4 g5 (pt := 101) (by decide) (pf := 96) rfl (fun hc => ?_) (fun hc => ?_)
    · replace h := h.1 hc
      refine tt_iconst hV rfl (pc' := 102) rfl ?_
      exact rq_ret (q := mI68) rfl rfl rfl h
    · replace h := h.2 (Int.not_le.mp hc)
      refine r_iload hV rfl rfl (pc' := 98) rfl ?_
      refine r_goto hV rfl (pc' := 102) (by decide) ?_
      exact rq_ret (q := mI68) rfl rfl rfl h
  · replace h := h.2 (Int.not_le.mp hc)
    refine r_aload_n hV rfl rfl (pc' := 22) rfl ?_
    refine r_iload_n hV rfl rfl (pc' := 23) rfl ?_
    obtain ⟨v23, m23, h, hr⟩ := h
    refine tt_cv1I hV rfl rfl rfl (Wd_obj (hB _ _ rfl)) (Nat.le_of_ble_eq_true rfl) (Nat.le_of_ble_eq_true rfl) rfl hr (pc' := 26) rfl ?_
    refine r_aload_n hV rfl rfl (pc' := 27) rfl ?_
    refine r_iload hV rfl rfl (pc' := 29) rfl ?_
    obtain ⟨v29, m29, h, hr⟩ := h
    refine tt_cv1I hV rfl rfl rfl (Wd_obj (hB _ _ rfl)) (Nat.le_of_ble_eq_true rfl) (Nat.le_of_ble_eq_true rfl) rfl hr (pc' := 32) rfl ?_
    refine tt_isub hV rfl (pc' := 33) rfl ?_
    refine tt_istore6 hV rfl rfl (pc' := 35) rfl ?_
    refine r_aload_n hV rfl rfl (pc' := 36) rfl ?_
    refine r_iload hV rfl rfl (pc' := 38) rfl ?_
    obtain ⟨v38, m38, h, hr⟩ := h
    refine tt_cv1I hV rfl rfl rfl (Wd_obj (hB _ _ rfl)) (Nat.le_of_ble_eq_true rfl) (Nat.le_of_ble_eq_true rfl) rfl hr (pc' := 41) rfl ?_
    obtain ⟨g6, h⟩ := h
    refine tt_if_eq hV rfl g6 (pt := 84) (by decide) (pf := 44) rfl (fun hc => ?_) (fun hc => ?_)
    · replace h := h.1 hc
      refine tt_iinc5 hV rfl rfl (pc' := 87) rfl ?_
      refine r_goto hV rfl (pc' := 6) (by decide) ?_
      exact h
    · replace h := h.2 hc
      refine r_iload hV rfl rfl (pc' := 46) rfl ?_
      obtain ⟨g7, h⟩ := h
      refine tt_if_lt hV rfl g7 (pt := 84) (by decide) (pf := 49) rfl (fun hc => ?_) (fun hc => ?_)
      · replace h := h.1 hc
        refine tt_iinc5 hV rfl rfl (pc' := 87) rfl ?_
        refine r_goto hV rfl (pc' := 6) (by decide) ?_
        exact h
      · replace h := h.2 (Int.not_lt.mp hc)
        refine r_aload_n hV rfl rfl (pc' := 50) rfl ?_
        refine tt_getI hV (tg := 0) (ci := 8) (kf := 7) rfl rfl (by decide) (hB _ _ rfl) rfl (by decide) (pc' := 53) rfl ?_
        refine r_iload_n hV rfl rfl (pc' := 54) rfl ?_
        refine r_aload_n hV rfl rfl (pc' := 55) rfl ?_
        refine tt_getR hV (tg := 6) (ci := 6) (kf := 3) rfl rfl (by decide) (hB _ _ rfl) rfl (by decide) (pc' := 58) rfl ?_
        obtain ⟨g8, h⟩ := h
        refine tt_getP hV (tg := 0) (ci := 7) (kf := 0) rfl rfl (by decide) (hB _ _ rfl) rfl (by decide) (b := c) g8 (pc' := 61) rfl ?_
        refine r_iload hV rfl rfl (pc' := 63) rfl ?_
        obtain ⟨v63, m63, h, hr⟩ := h
        refine tt_cv1I hV rfl rfl rfl (Wd_obj hcs.1) (Nat.le_of_ble_eq_true rfl) (Nat.le_of_ble_eq_true rfl) rfl hr (pc' := 66) rfl ?_
        refine tt_isub hV rfl (pc' := 67) rfl ?_
        obtain ⟨g9, h⟩ := h
        obtain ⟨g10, h⟩ := h
        refine tt_max hV rfl rfl rfl g9 g10 (Nat.le_of_ble_eq_true rfl) (pc' := 70) rfl ?_
        refine tt_istore7 hV rfl rfl (pc' := 72) rfl ?_
        refine r_iload hV rfl rfl (pc' := 74) rfl ?_
        refine r_iload hV rfl rfl (pc' := 76) rfl ?_
        refine r_iload hV rfl rfl (pc' := 78) rfl ?_
        refine tt_iadd hV rfl (pc' := 79) rfl ?_
        refine vtI (y := (max (m38 17 7) (y - v63)) + v23 - v29) (by clear h; omega) ?_
        obtain ⟨g11, h⟩ := h
        obtain ⟨g12, h⟩ := h
        refine tt_min hV rfl rfl rfl g11 g12 (Nat.le_of_ble_eq_true rfl) (pc' := 82) rfl ?_
        refine tt_istore4 hV rfl rfl (pc' := 84) rfl ?_
        refine tt_iinc5 hV rfl rfl (pc' := 87) rfl ?_
        refine r_goto hV rfl (pc' := 6) (by decide) ?_
        exact h
theorem O_listStraww {X : Cx} {d : Nat} {x : Int} {y : Int} {m : Mm} {Q : Mm → Prop} (hB : Bsh X.2.2.1) (h : ∃ c : Nat, cO c ∧ (m 18 0 = (c : Int)) ∧ O_listStraw_25 X (d + 1) x y ((iSl 1 (m c 3))) 0 none (up m 67 1 0) Q) : O_listStraw X (d + 1) x y m Q := by
  unfold O_listStraw
  have hV : Clo (gP X.1 X.2.1) (d + 1) 69 7 false (Ru0 (gP X.1 X.2.1) (d + 1) 69 X.2.2.1 X.2.2.2 Q) := Ru0_clo (q := mI69) rfl
  refine r_aload_n hV rfl rfl (pc' := 1) rfl ?_
  refine tt_getR hV (tg := 6) (ci := 6) (kf := 0) rfl rfl (by decide) (hB _ _ rfl) rfl (by decide) (pc' := 4) rfl ?_
  refine tt_iconst hV rfl (pc' := 5) rfl ?_
  refine tt_putI hV (tg := 0) (ci := 2) (kf := 1) rfl rfl (Or.inl rfl) (hB _ _ rfl) rfl (by decide) rfl (pc' := 8) rfl ?_
  refine tt_iconst hV rfl (pc' := 9) rfl ?_
  refine r_aload_n hV rfl rfl (pc' := 10) rfl ?_
  refine tt_getR hV (tg := 6) (ci := 6) (kf := 3) rfl rfl (by decide) (hB _ _ rfl) rfl (by decide) (pc' := 13) rfl ?_
  obtain ⟨c, hc, h⟩ := h
  have hcs := csh_of hB hc
  obtain ⟨g1, h⟩ := h
  refine tt_getP hV (tg := 0) (ci := 7) (kf := 0) rfl rfl (by decide) (hB _ _ rfl) rfl (by decide) (b := c) ((up_ne (Or.inl (by decide))).trans g1) (pc' := 16) rfl ?_
  refine tt_getI hV (tg := 0) (ci := 0) (kf := 3) rfl rfl (by decide) hcs.1 rfl (by decide) (pc' := 19) rfl ?_
  refine vtI (y := m c 3) (up_ne (Or.inl (by clear h; omega))) ?_
  refine tt_ishl hV rfl (pc' := 20) rfl ?_
  refine tt_istore4 hV rfl rfl (pc' := 22) rfl ?_
  refine tt_iconst hV rfl (pc' := 23) rfl ?_
  refine tt_istore5 hV rfl rfl (pc' := 25) rfl ?_
  exact h
theorem O_listStraw_25w {X : Cx} {d : Nat} {x : Int} {y : Int} {l4 : Int} {l5 : Int} {o6 : Option Int} {m : Mm} {Q : Mm → Prop} (hB : Bsh X.2.2.1) (h : (-2147483648 ≤ l5 ∧ l5 < 2147483648) ∧ (-2147483648 ≤ l4 ∧ l4 < 2147483648) ∧ (l4 ≤ l5 → Q m) ∧ (l5 < l4 → J_bitCount X d l5 m (fun v34 m34 => (-2147483648 ≤ v34 ∧ v34 < 2147483648) ∧ (-2147483648 ≤ x ∧ x < 2147483648) ∧ (v34 < x → O_listStraw_25 X (d + 1) x y l4 (l5 + 1) (some v34) m34 Q) ∧ (x ≤ v34 → (-2147483648 ≤ y ∧ y < 2147483648) ∧ (y < v34 → O_listStraw_25 X (d + 1) x y l4 (l5 + 1) (some v34) m34 Q) ∧ (v34 ≤ y → ((iA l5 (m34 17 5)) ≠ 0 → O_listStraw_25 X (d + 1) x y l4 (l5 + 1) (some v34) m34 Q) ∧ ((iA l5 (m34 17 5)) = 0 → T_copy X d 69 17 m34 (fun m66 => S_sideAtEnd X d 69 (up m66 69 5 ((iO (m66 69 5) l5))) (fun v91 m91 => (-2147483648 ≤ (m91 69 4) ∧ (m91 69 4) < 2147483648) ∧ (-2147483648 ≤ (m91 17 4) ∧ (m91 17 4) < 2147483648) ∧ (m91 69 4 ≠ m91 17 4 → O_listStraw_25 X (d + 1) x y l4 (l5 + 1) (some v34) m91 Q) ∧ (m91 69 4 = m91 17 4 → F_add X d 67 l5 m91 (fun m115 => O_listStraw_25 X (d + 1) x y l4 (l5 + 1) (some v34) m115 Q)))))))))) : O_listStraw_25 X (d + 1) x y l4 l5 o6 m Q := by
  unfold O_listStraw_25
  have hV : Clo (gP X.1 X.2.1) (d + 1) 69 7 false (Ru0 (gP X.1 X.2.1) (d + 1) 69 X.2.2.1 X.2.2.2 Q) := Ru0_clo (q := mI69) rfl
  refine r_iload hV rfl rfl (pc' := 27) rfl ?_
  refine r_iload hV rfl rfl (pc' := 29) rfl ?_
  obtain ⟨g2, h⟩ := h
  obtain ⟨g3, h⟩ := h
  refine tt_icmp_ge hV rfl g2 g3 (pt := 124) (by decide) (pf := 32) rfl (fun hc => ?_) (fun hc => ?_)
  · replace h := h.1 hc
    exact ru0_ret (q := mI69) rfl rfl rfl h
  · replace h := h.2 (Int.not_le.mp hc)
    refine r_iload hV rfl rfl (pc' := 34) rfl ?_
    obtain ⟨v34, m34, h, hr⟩ := h
    refine tt_cs1I hV rfl rfl rfl (Nat.le_of_ble_eq_true rfl) (Nat.le_of_ble_eq_true rfl) rfl hr (pc' := 37) rfl ?_
    refine tt_istore6 hV rfl rfl (pc' := 39) rfl ?_
    refine r_iload hV rfl rfl (pc' := 41) rfl ?_
    refine r_iload_n hV rfl rfl (pc' := 42) rfl ?_
    obtain ⟨g4, h⟩ := h
    obtain ⟨g5, h⟩ := h
    refine tt_icmp_lt hV rfl g4 g5 (pt := 118) (by decide) (pf := 45) rfl (fun hc => ?_) (fun hc => ?_)
    · replace h := h.1 hc
      refine tt_iinc5 hV rfl rfl (pc' := 121) rfl ?_
      refine r_goto hV rfl (pc' := 25) (by decide) ?_
      exact h
    · replace h := h.2 (Int.not_lt.mp hc)
      refine r_iload hV rfl rfl (pc' := 47) rfl ?_
      refine r_iload_n hV rfl rfl (pc' := 48) rfl ?_
      obtain ⟨g6, h⟩ := h
      refine tt_icmp_gt hV rfl g4 g6 (pt := 118) (by decide) (pf := 51) rfl (fun hc => ?_) (fun hc => ?_)
      · replace h := h.1 hc
        refine tt_iinc5 hV rfl rfl (pc' := 121) rfl ?_
        refine r_goto hV rfl (pc' := 25) (by decide) ?_
        exact h
      · replace h := h.2 (Int.not_lt.mp hc)
        refine r_iload hV rfl rfl (pc' := 53) rfl ?_
        refine r_aload_n hV rfl rfl (pc' := 54) rfl ?_
        refine tt_getI hV (tg := 0) (ci := 8) (kf := 5) rfl rfl (by decide) (hB _ _ rfl) rfl (by decide) (pc' := 57) rfl ?_
        refine tt_iand hV rfl (pc' := 58) rfl ?_
        refine tt_if_ne hV rfl (i32R _) (pt := 118) (by decide) (pf := 61) rfl (fun hc => ?_) (fun hc => ?_)
        · replace h := h.1 hc
          refine tt_iinc5 hV rfl rfl (pc' := 121) rfl ?_
          refine r_goto hV rfl (pc' := 25) (by decide) ?_
          exact h
        · replace h := h.2 (Decidable.not_not.mp hc)
          refine r_aload_n hV rfl rfl (pc' := 62) rfl ?_
          refine tt_getR hV (tg := 6) (ci := 6) (kf := 4) rfl rfl (by decide) (hB _ _ rfl) rfl (by decide) (pc' := 65) rfl ?_
          refine r_aload_n hV rfl rfl (pc' := 66) rfl ?_
          obtain ⟨m66, h, hr⟩ := h
          refine tt_cv1U hV rfl rfl rfl (Wd_obj (hB _ _ rfl)) (Nat.le_of_ble_eq_true rfl) (Nat.le_of_ble_eq_true rfl) rfl hr (pc' := 69) rfl ?_
          refine r_aload_n hV rfl rfl (pc' := 70) rfl ?_
          refine tt_getR hV (tg := 6) (ci := 6) (kf := 4) rfl rfl (by decide) (hB _ _ rfl) rfl (by decide) (pc' := 73) rfl ?_
          refine r_dup hV rfl rfl (pc' := 74) rfl ?_
          refine tt_getI hV (tg := 0) (ci := 8) (kf := 5) rfl rfl (by decide) (hB _ _ rfl) rfl (by decide) (pc' := 77) rfl ?_
          refine r_iload hV rfl rfl (pc' := 79) rfl ?_
          refine tt_ior hV rfl (pc' := 80) rfl ?_
          refine tt_putI hV (tg := 0) (ci := 8) (kf := 5) rfl rfl (Or.inl rfl) (hB _ _ rfl) rfl (by decide) rfl (pc' := 83) rfl ?_
          refine r_aload_n hV rfl rfl (pc' := 84) rfl ?_
          refine tt_getR hV (tg := 6) (ci := 6) (kf := 3) rfl rfl (by decide) (hB _ _ rfl) rfl (by decide) (pc' := 87) rfl ?_
          refine r_aload_n hV rfl rfl (pc' := 88) rfl ?_
          refine tt_getR hV (tg := 6) (ci := 6) (kf := 4) rfl rfl (by decide) (hB _ _ rfl) rfl (by decide) (pc' := 91) rfl ?_
          obtain ⟨v91, m91, h, hr⟩ := h
          refine tt_cv1I hV rfl rfl rfl (Wd_obj (hB _ _ rfl)) (Nat.le_of_ble_eq_true rfl) (Nat.le_of_ble_eq_true rfl) rfl hr (pc' := 94) rfl ?_
          refine r_pop hV rfl rfl (pc' := 95) rfl ?_
          refine r_aload_n hV rfl rfl (pc' := 96) rfl ?_
          refine tt_getR hV (tg := 6) (ci := 6) (kf := 4) rfl rfl (by decide) (hB _ _ rfl) rfl (by decide) (pc' := 99) rfl ?_
          refine tt_getI hV (tg := 0) (ci := 8) (kf := 4) rfl rfl (by decide) (hB _ _ rfl) rfl (by decide) (pc' := 102) rfl ?_
          refine r_aload_n hV rfl rfl (pc' := 103) rfl ?_
          refine tt_getI hV (tg := 0) (ci := 8) (kf := 4) rfl rfl (by decide) (hB _ _ rfl) rfl (by decide) (pc' := 106) rfl ?_
          obtain ⟨g7, h⟩ := h
          obtain ⟨g8, h⟩ := h
          refine tt_icmp_ne hV rfl g7 g8 (pt := 118) (by decide) (pf := 109) rfl (fun hc => ?_) (fun hc => ?_)
          · replace h := h.1 hc
            refine tt_iinc5 hV rfl rfl (pc' := 121) rfl ?_
            refine r_goto hV rfl (pc' := 25) (by decide) ?_
            exact h
          · replace h := h.2 (Decidable.not_not.mp hc)
            refine r_aload_n hV rfl rfl (pc' := 110) rfl ?_
            refine tt_getR hV (tg := 6) (ci := 6) (kf := 0) rfl rfl (by decide) (hB _ _ rfl) rfl (by decide) (pc' := 113) rfl ?_
            refine r_iload hV rfl rfl (pc' := 115) rfl ?_
            obtain ⟨m115, h, hr⟩ := h
            refine tt_cv1U hV rfl rfl rfl (Wd_obj (hB _ _ rfl)) (Nat.le_of_ble_eq_true rfl) (Nat.le_of_ble_eq_true rfl) rfl hr (pc' := 118) rfl ?_
            refine tt_iinc5 hV rfl rfl (pc' := 121) rfl ?_
            refine r_goto hV rfl (pc' := 25) (by decide) ?_
            exact h
theorem F_ofFewestBitsw {X : Cx} {d : Nat} {f : Nat} {m : Mm} {Q : Int → Mm → Prop} (hB : Bsh X.2.2.1) (hf : fO f) (h : F_at X d f 0 m (fun v2 m2 => F_ofFewestBits_8 X (d + 1) f v2 1 m2 Q)) : F_ofFewestBits X (d + 1) f m Q := by
  unfold F_ofFewestBits
  have hV : Clo (gP X.1 X.2.1) (d + 1) 70 3 false (Rq (gP X.1 X.2.1) (d + 1) 70 X.2.2.1 X.2.2.2 Q) := Rq_clo (q := mI70) rfl
  refine r_aload_n hV rfl rfl (pc' := 1) rfl ?_
  refine tt_iconst hV rfl (pc' := 2) rfl ?_
  obtain ⟨v2, m2, h, hr⟩ := h
  refine tt_cv1I hV rfl rfl rfl (Wd_obj (fSh hB hf).1) (Nat.le_of_ble_eq_true rfl) (Nat.le_of_ble_eq_true rfl) rfl hr (pc' := 5) rfl ?_
  refine tt_istore1 hV rfl rfl (pc' := 6) rfl ?_
  refine tt_iconst hV rfl (pc' := 7) rfl ?_
  refine tt_istore2 hV rfl rfl (pc' := 8) rfl ?_
  exact h
theorem F_ofFewestBits_8w {X : Cx} {d : Nat} {f : Nat} {l1 : Int} {l2 : Int} {m : Mm} {Q : Int → Mm → Prop} (hB : Bsh X.2.2.1) (hf : fO f) (h : (-2147483648 ≤ l2 ∧ l2 < 2147483648) ∧ (-2147483648 ≤ (m f 1) ∧ (m f 1) < 2147483648) ∧ (m f 1 ≤ l2 → Q l1 m) ∧ (l2 < m f 1 → F_at X d f l2 m (fun v18 m18 => J_bitCount X d v18 m18 (fun v21 m21 => J_bitCount X d l1 m21 (fun v25 m25 => (-2147483648 ≤ v21 ∧ v21 < 2147483648) ∧ (-2147483648 ≤ v25 ∧ v25 < 2147483648) ∧ (v25 ≤ v21 → F_ofFewestBits_8 X (d + 1) f l1 (l2 + 1) m25 Q) ∧ (v21 < v25 → F_at X d f l2 m25 (fun v33 m33 => F_ofFewestBits_8 X (d + 1) f v33 (l2 + 1) m33 Q))))))) : F_ofFewestBits_8 X (d + 1) f l1 l2 m Q := by
  unfold F_ofFewestBits_8
  have hV : Clo (gP X.1 X.2.1) (d + 1) 70 3 false (Rq (gP X.1 X.2.1) (d + 1) 70 X.2.2.1 X.2.2.2 Q) := Rq_clo (q := mI70) rfl
  refine r_iload_n hV rfl rfl (pc' := 9) rfl ?_
  refine r_aload_n hV rfl rfl (pc' := 10) rfl ?_
  refine tt_getI hV (tg := 0) (ci := 2) (kf := 1) rfl rfl (by decide) (fSh hB hf).1 rfl (by decide) (pc' := 13) rfl ?_
  obtain ⟨g1, h⟩ := h
  obtain ⟨g2, h⟩ := h
  refine tt_icmp_ge hV rfl g1 g2 (pt := 43) (by decide) (pf := 16) rfl (fun hc => ?_) (fun hc => ?_)
  · replace h := h.1 hc
    refine r_iload_n hV rfl rfl (pc' := 44) rfl ?_
    exact rq_ret (q := mI70) rfl rfl rfl h
  · replace h := h.2 (Int.not_le.mp hc)
    refine r_aload_n hV rfl rfl (pc' := 17) rfl ?_
    refine r_iload_n hV rfl rfl (pc' := 18) rfl ?_
    obtain ⟨v18, m18, h, hr⟩ := h
    refine tt_cv1I hV rfl rfl rfl (Wd_obj (fSh hB hf).1) (Nat.le_of_ble_eq_true rfl) (Nat.le_of_ble_eq_true rfl) rfl hr (pc' := 21) rfl ?_
    obtain ⟨v21, m21, h, hr⟩ := h
    refine tt_cs1I hV rfl rfl rfl (Nat.le_of_ble_eq_true rfl) (Nat.le_of_ble_eq_true rfl) rfl hr (pc' := 24) rfl ?_
    refine r_iload_n hV rfl rfl (pc' := 25) rfl ?_
    obtain ⟨v25, m25, h, hr⟩ := h
    refine tt_cs1I hV rfl rfl rfl (Nat.le_of_ble_eq_true rfl) (Nat.le_of_ble_eq_true rfl) rfl hr (pc' := 28) rfl ?_
    obtain ⟨g3, h⟩ := h
    obtain ⟨g4, h⟩ := h
    refine tt_icmp_ge hV rfl g3 g4 (pt := 37) (by decide) (pf := 31) rfl (fun hc => ?_) (fun hc => ?_)
    · replace h := h.1 hc
      refine tt_iinc2 hV rfl rfl (pc' := 40) rfl ?_
      refine r_goto hV rfl (pc' := 8) (by decide) ?_
      exact h
    · replace h := h.2 (Int.not_le.mp hc)
      refine r_aload_n hV rfl rfl (pc' := 32) rfl ?_
      refine r_iload_n hV rfl rfl (pc' := 33) rfl ?_
      obtain ⟨v33, m33, h, hr⟩ := h
      refine tt_cv1I hV rfl rfl rfl (Wd_obj (fSh hB hf).1) (Nat.le_of_ble_eq_true rfl) (Nat.le_of_ble_eq_true rfl) rfl hr (pc' := 36) rfl ?_
      refine tt_istore1 hV rfl rfl (pc' := 37) rfl ?_
      refine tt_iinc2 hV rfl rfl (pc' := 40) rfl ?_
      refine r_goto hV rfl (pc' := 8) (by decide) ?_
      exact h
theorem O_partsEndingw {X : Cx} {d : Nat} {x : Int} {y : Int} {m : Mm} {Q : Int → Mm → Prop} (hB : Bsh X.2.2.1) (h : O_moderates X d m (fun v9 m9 => O_partsEnding_20 X (d + 1) x y 0 ((iA (m 17 4) ((iX v9 (-1))))) 0 none none m9 Q)) : O_partsEnding X (d + 1) x y m Q := by
  unfold O_partsEnding
  have hV : Clo (gP X.1 X.2.1) (d + 1) 71 11 false (Rq (gP X.1 X.2.1) (d + 1) 71 X.2.2.1 X.2.2.2 Q) := Rq_clo (q := mI71) rfl
  refine tt_lconst hV (z := 0) rfl (by decide) (pc' := 1) rfl ?_
  refine tt_lstore4 hV rfl rfl (pc' := 3) rfl ?_
  refine r_aload_n hV rfl rfl (pc' := 4) rfl ?_
  refine tt_getI hV (tg := 0) (ci := 8) (kf := 4) rfl rfl (by decide) (hB _ _ rfl) rfl (by decide) (pc' := 7) rfl ?_
  refine r_aload_n hV rfl rfl (pc' := 8) rfl ?_
  refine r_aload_n hV rfl rfl (pc' := 9) rfl ?_
  obtain ⟨v9, m9, h, hr⟩ := h
  refine tt_cv1I hV rfl rfl rfl (Wd_obj (hB _ _ rfl)) (Nat.le_of_ble_eq_true rfl) (Nat.le_of_ble_eq_true rfl) rfl hr (pc' := 12) rfl ?_
  refine tt_iconst hV rfl (pc' := 13) rfl ?_
  refine tt_ixor hV rfl (pc' := 14) rfl ?_
  refine tt_iand hV rfl (pc' := 15) rfl ?_
  refine tt_istore6 hV rfl rfl (pc' := 17) rfl ?_
  refine tt_iconst hV rfl (pc' := 18) rfl ?_
  refine tt_istore7 hV rfl rfl (pc' := 20) rfl ?_
  exact h
theorem O_partsEnding_20w {X : Cx} {d : Nat} {x : Int} {y : Int} {l4 : Int} {l6 : Int} {l7 : Int} {o8 : Option Int} {o10 : Option Int} {m : Mm} {Q : Int → Mm → Prop} (hB : Bsh X.2.2.1) (h : (-2147483648 ≤ l7 ∧ l7 < 2147483648) ∧ (-2147483648 ≤ l6 ∧ l6 < 2147483648) ∧ (l6 < l7 → Q l4 m) ∧ (l7 ≤ l6 → ((iA l7 ((iX l6 (-1)))) ≠ 0 → ((if 0 < 0 then 1 else if 0 = 0 then 0 else -1) ≤ 0 → O_partsEnding_20 X (d + 1) x y l4 l6 (l7 + 1) (some 0) o10 m Q) ∧ (0 < (if 0 < 0 then 1 else if 0 = 0 then 0 else -1) → T_copy X d 69 17 m (fun m64 => O_partsEnding_70 X (d + 1) x y l4 l6 l7 0 0 m64 Q))) ∧ ((iA l7 ((iX l6 (-1)))) = 0 → O_partOf X d l6 l7 y m (fun v43 m43 => (-9223372036854775808 ≤ v43 ∧ v43 < 9223372036854775808) ∧ ((if 0 < v43 then 1 else if v43 = 0 then 0 else -1) ≤ 0 → O_partsEnding_20 X (d + 1) x y l4 l6 (l7 + 1) (some v43) o10 m43 Q) ∧ (0 < (if 0 < v43 then 1 else if v43 = 0 then 0 else -1) → T_copy X d 69 17 m43 (fun m64 => O_partsEnding_70 X (d + 1) x y l4 l6 l7 v43 0 m64 Q)))))) : O_partsEnding_20 X (d + 1) x y l4 l6 l7 o8 o10 m Q := by
  unfold O_partsEnding_20
  have hV : Clo (gP X.1 X.2.1) (d + 1) 71 11 false (Rq (gP X.1 X.2.1) (d + 1) 71 X.2.2.1 X.2.2.2 Q) := Rq_clo (q := mI71) rfl
  refine r_iload hV rfl rfl (pc' := 22) rfl ?_
  refine r_iload hV rfl rfl (pc' := 24) rfl ?_
  obtain ⟨g1, h⟩ := h
  obtain ⟨g2, h⟩ := h
  refine tt_icmp_gt hV rfl g1 g2 (pt := 157) (by decide) (pf := 27) rfl (fun hc => ?_) (fun hc => ?_)
  · replace h := h.1 hc
    refine r_lload hV rfl rfl (pc' := 159) rfl ?_
    refine tt_l2i hV rfl (pc' := 160) rfl ?_
    exact rq_ret (q := mI71) rfl rfl rfl h
  · replace h := h.2 (Int.not_lt.mp hc)
    refine r_iload hV rfl rfl (pc' := 29) rfl ?_
    refine r_iload hV rfl rfl (pc' := 31) rfl ?_
    refine tt_iconst hV rfl (pc' := 32) rfl ?_
    refine tt_ixor hV rfl (pc' := 33) rfl ?_
    refine tt_iand hV rfl (pc' := 34) rfl ?_
    refine tt_if_ne hV rfl (i32R _) (pt := 49) (by decide) (pf := 37) rfl (fun hc => ?_) (fun hc => ?_)
    · replace h := h.1 hc
      refine tt_lconst hV (z := 0) rfl (by decide) (pc' := 50) rfl ?_
      refine tt_lstore8 hV rfl rfl (pc' := 52) rfl ?_
      refine r_lload hV rfl rfl (pc' := 54) rfl ?_
      refine tt_lconst hV (z := 0) rfl (by decide) (pc' := 55) rfl ?_
      refine tt_lcmp hV rfl (by decide) (by decide) (pc' := 56) rfl ?_
      refine tt_if_le hV rfl (cmp3 _ _) (pt := 151) (by decide) (pf := 59) rfl (fun hc => ?_) (fun hc => ?_)
      · replace h := h.1 hc
        refine tt_iinc7 hV rfl rfl (pc' := 154) rfl ?_
        refine r_goto hV rfl (pc' := 20) (by decide) ?_
        exact h
      · replace h := h.2 (Int.not_le.mp hc)
        refine r_aload_n hV rfl rfl (pc' := 60) rfl ?_
        refine tt_getR hV (tg := 6) (ci := 6) (kf := 4) rfl rfl (by decide) (hB _ _ rfl) rfl (by decide) (pc' := 63) rfl ?_
        refine r_aload_n hV rfl rfl (pc' := 64) rfl ?_
        obtain ⟨m64, h, hr⟩ := h
        refine tt_cv1U hV rfl rfl rfl (Wd_obj (hB _ _ rfl)) (Nat.le_of_ble_eq_true rfl) (Nat.le_of_ble_eq_true rfl) rfl hr (pc' := 67) rfl ?_
        refine tt_iconst hV rfl (pc' := 68) rfl ?_
        refine tt_istore10 hV rfl rfl (pc' := 70) rfl ?_
        exact h
    · replace h := h.2 (Decidable.not_not.mp hc)
      refine r_aload_n hV rfl rfl (pc' := 38) rfl ?_
      refine r_iload hV rfl rfl (pc' := 40) rfl ?_
      refine r_iload hV rfl rfl (pc' := 42) rfl ?_
      refine r_iload_n hV rfl rfl (pc' := 43) rfl ?_
      obtain ⟨v43, m43, h, hr⟩ := h
      refine tt_cv3I hV rfl rfl rfl (Wd_obj (hB _ _ rfl)) (Nat.le_of_ble_eq_true rfl) (Nat.le_of_ble_eq_true rfl) rfl hr (pc' := 46) rfl ?_
      refine r_goto hV rfl (pc' := 50) (by decide) ?_
      refine tt_lstore8 hV rfl rfl (pc' := 52) rfl ?_
      refine r_lload hV rfl rfl (pc' := 54) rfl ?_
      refine tt_lconst hV (z := 0) rfl (by decide) (pc' := 55) rfl ?_
      obtain ⟨g3, h⟩ := h
      refine tt_lcmp hV rfl g3 (by decide) (pc' := 56) rfl ?_
      refine tt_if_le hV rfl (cmp3 _ _) (pt := 151) (by decide) (pf := 59) rfl (fun hc => ?_) (fun hc => ?_)
      · replace h := h.1 hc
        refine tt_iinc7 hV rfl rfl (pc' := 154) rfl ?_
        refine r_goto hV rfl (pc' := 20) (by decide) ?_
        exact h
      · replace h := h.2 (Int.not_le.mp hc)
        refine r_aload_n hV rfl rfl (pc' := 60) rfl ?_
        refine tt_getR hV (tg := 6) (ci := 6) (kf := 4) rfl rfl (by decide) (hB _ _ rfl) rfl (by decide) (pc' := 63) rfl ?_
        refine r_aload_n hV rfl rfl (pc' := 64) rfl ?_
        obtain ⟨m64, h, hr⟩ := h
        refine tt_cv1U hV rfl rfl rfl (Wd_obj (hB _ _ rfl)) (Nat.le_of_ble_eq_true rfl) (Nat.le_of_ble_eq_true rfl) rfl hr (pc' := 67) rfl ?_
        refine tt_iconst hV rfl (pc' := 68) rfl ?_
        refine tt_istore10 hV rfl rfl (pc' := 70) rfl ?_
        exact h
theorem O_partsEnding_70w {X : Cx} {d : Nat} {x : Int} {y : Int} {l4 : Int} {l6 : Int} {l7 : Int} {l8 : Int} {l10 : Int} {m : Mm} {Q : Int → Mm → Prop} (hB : Bsh X.2.2.1) (h : ∃ c : Nat, cO c ∧ (m 18 0 = (c : Int)) ∧ (-2147483648 ≤ l10 ∧ l10 < 2147483648) ∧ (-2147483648 ≤ (m c 4) ∧ (m c 4) < 2147483648) ∧ (m c 4 ≤ l10 → S_sideAtEnd X d 69 m (fun v137 m137 => (-2147483648 ≤ v137 ∧ v137 < 2147483648) ∧ (-2147483648 ≤ x ∧ x < 2147483648) ∧ (v137 ≠ x → O_partsEnding_20 X (d + 1) x y l4 l6 (l7 + 1) (some l8) (some l10) m137 Q) ∧ (v137 = x → O_partsEnding_20 X (d + 1) x y (l4 + l8) l6 (l7 + 1) (some l8) (some l10) m137 Q))) ∧ (l10 < m c 4 → ((iA ((iSr l7 l10)) 1) ≠ 1 → O_partsEnding_70 X (d + 1) x y l4 l6 l7 l8 (l10 + 1) m Q) ∧ ((iA ((iSr l7 l10)) 1) = 1 → T_leanOf X d 17 l10 m (fun v113 m113 => T_with X d (m 69 1) l10 (-v113 + 2) m113 (fun v117 m117 => O_partsEnding_70 X (d + 1) x y l4 l6 l7 l8 (l10 + 1) (up m117 69 1 v117) Q))))) : O_partsEnding_70 X (d + 1) x y l4 l6 l7 l8 l10 m Q := by
  unfold O_partsEnding_70
  have hV : Clo (gP X.1 X.2.1) (d + 1) 71 11 false (Rq (gP X.1 X.2.1) (d + 1) 71 X.2.2.1 X.2.2.2 Q) := Rq_clo (q := mI71) rfl
  refine r_iload hV rfl rfl (pc' := 72) rfl ?_
  refine r_aload_n hV rfl rfl (pc' := 73) rfl ?_
  refine tt_getR hV (tg := 6) (ci := 6) (kf := 3) rfl rfl (by decide) (hB _ _ rfl) rfl (by decide) (pc' := 76) rfl ?_
  obtain ⟨c, hc, h⟩ := h
  have hcs := csh_of hB hc
  obtain ⟨g4, h⟩ := h
  refine tt_getP hV (tg := 0) (ci := 7) (kf := 0) rfl rfl (by decide) (hB _ _ rfl) rfl (by decide) (b := c) g4 (pc' := 79) rfl ?_
  refine tt_getI hV (tg := 0) (ci := 0) (kf := 4) rfl rfl (by decide) hcs.1 rfl (by decide) (pc' := 82) rfl ?_
  obtain ⟨g5, h⟩ := h
  obtain ⟨g6, h⟩ := h
  refine tt_icmp_ge hV rfl g5 g6 (pt := 129) (by decide) (pf := 85) rfl (fun hc => ?_) (fun hc => ?_)
  · replace h := h.1 hc
    refine r_aload_n hV rfl rfl (pc' := 130) rfl ?_
    refine tt_getR hV (tg := 6) (ci := 6) (kf := 3) rfl rfl (by decide) (hB _ _ rfl) rfl (by decide) (pc' := 133) rfl ?_
    refine r_aload_n hV rfl rfl (pc' := 134) rfl ?_
    refine tt_getR hV (tg := 6) (ci := 6) (kf := 4) rfl rfl (by decide) (hB _ _ rfl) rfl (by decide) (pc' := 137) rfl ?_
    obtain ⟨v137, m137, h, hr⟩ := h
    refine tt_cv1I hV rfl rfl rfl (Wd_obj (hB _ _ rfl)) (Nat.le_of_ble_eq_true rfl) (Nat.le_of_ble_eq_true rfl) rfl hr (pc' := 140) rfl ?_
    refine r_iload_n hV rfl rfl (pc' := 141) rfl ?_
    obtain ⟨g7, h⟩ := h
    obtain ⟨g8, h⟩ := h
    refine tt_icmp_ne hV rfl g7 g8 (pt := 151) (by decide) (pf := 144) rfl (fun hc => ?_) (fun hc => ?_)
    · replace h := h.1 hc
      refine tt_iinc7 hV rfl rfl (pc' := 154) rfl ?_
      refine r_goto hV rfl (pc' := 20) (by decide) ?_
      exact h
    · replace h := h.2 (Decidable.not_not.mp hc)
      refine r_lload hV rfl rfl (pc' := 146) rfl ?_
      refine r_lload hV rfl rfl (pc' := 148) rfl ?_
      refine tt_ladd hV rfl (pc' := 149) rfl ?_
      refine tt_lstore4 hV rfl rfl (pc' := 151) rfl ?_
      refine tt_iinc7 hV rfl rfl (pc' := 154) rfl ?_
      refine r_goto hV rfl (pc' := 20) (by decide) ?_
      exact h
  · replace h := h.2 (Int.not_le.mp hc)
    refine r_iload hV rfl rfl (pc' := 87) rfl ?_
    refine r_iload hV rfl rfl (pc' := 89) rfl ?_
    refine tt_ishr hV rfl (pc' := 90) rfl ?_
    refine tt_iconst hV rfl (pc' := 91) rfl ?_
    refine tt_iand hV rfl (pc' := 92) rfl ?_
    refine tt_iconst hV rfl (pc' := 93) rfl ?_
    refine tt_icmp_ne hV rfl (i32R _) (by decide) (pt := 123) (by decide) (pf := 96) rfl (fun hc => ?_) (fun hc => ?_)
    · replace h := h.1 hc
      refine tt_iinc10 hV rfl rfl (pc' := 126) rfl ?_
      refine r_goto hV rfl (pc' := 70) (by decide) ?_
      exact h
    · replace h := h.2 (Decidable.not_not.mp hc)
      refine r_aload_n hV rfl rfl (pc' := 97) rfl ?_
      refine tt_getR hV (tg := 6) (ci := 6) (kf := 4) rfl rfl (by decide) (hB _ _ rfl) rfl (by decide) (pc' := 100) rfl ?_
      refine r_aload_n hV rfl rfl (pc' := 101) rfl ?_
      refine tt_getR hV (tg := 6) (ci := 6) (kf := 4) rfl rfl (by decide) (hB _ _ rfl) rfl (by decide) (pc' := 104) rfl ?_
      refine tt_getI hV (tg := 0) (ci := 8) (kf := 1) rfl rfl (by decide) (hB _ _ rfl) rfl (by decide) (pc' := 107) rfl ?_
      refine r_iload hV rfl rfl (pc' := 109) rfl ?_
      refine tt_iconst hV rfl (pc' := 110) rfl ?_
      refine r_aload_n hV rfl rfl (pc' := 111) rfl ?_
      refine r_iload hV rfl rfl (pc' := 113) rfl ?_
      obtain ⟨v113, m113, h, hr⟩ := h
      refine tt_cv1I hV rfl rfl rfl (Wd_obj (hB _ _ rfl)) (Nat.le_of_ble_eq_true rfl) (Nat.le_of_ble_eq_true rfl) rfl hr (pc' := 116) rfl ?_
      refine tt_isub hV rfl (pc' := 117) rfl ?_
      refine vtI (y := -v113 + 2) (by clear h; omega) ?_
      obtain ⟨v117, m117, h, hr⟩ := h
      refine tt_cs3I hV rfl rfl rfl (Nat.le_of_ble_eq_true rfl) (Nat.le_of_ble_eq_true rfl) rfl hr (pc' := 120) rfl ?_
      refine tt_putI hV (tg := 0) (ci := 8) (kf := 1) rfl rfl (Or.inl rfl) (hB _ _ rfl) rfl (by decide) rfl (pc' := 123) rfl ?_
      refine tt_iinc10 hV rfl rfl (pc' := 126) rfl ?_
      refine r_goto hV rfl (pc' := 70) (by decide) ?_
      exact h
theorem O_partOfw {X : Cx} {d : Nat} {x : Int} {y : Int} {z : Int} {m : Mm} {Q : Int → Mm → Prop} (hB : Bsh X.2.2.1) (h : O_partOf_8 X d x y z 1000000000 0 none m Q) : O_partOf X d x y z m Q := by
  unfold O_partOf
  have hV : Clo (gP X.1 X.2.1) d 72 9 false (Rj (gP X.1 X.2.1) d 72 X.2.2.1 X.2.2.2 Q) := Rj_clo (q := mI72) rfl
  refine v_ldc2 hV (Int64.ofInt 1000000000) rfl rfl rfl (pc' := 3) rfl ?_
  refine tt_lstore4 hV rfl rfl (pc' := 5) rfl ?_
  refine tt_iconst hV rfl (pc' := 6) rfl ?_
  refine tt_istore6 hV rfl rfl (pc' := 8) rfl ?_
  exact h
theorem O_partOf_8w {X : Cx} {d : Nat} {x : Int} {y : Int} {z : Int} {l4 : Int} {l6 : Int} {o7 : Option Int} {m : Mm} {Q : Int → Mm → Prop} (hB : Bsh X.2.2.1) (h : ∃ c : Nat, cO c ∧ (m 18 0 = (c : Int)) ∧ (-2147483648 ≤ l6 ∧ l6 < 2147483648) ∧ (-2147483648 ≤ (m c 4) ∧ (m c 4) < 2147483648) ∧ (m c 4 ≤ l6 → Q l4 m) ∧ (l6 < m c 4 → ((iA ((iSr x l6)) 1) ≠ 1 → O_partOf_8 X d x y z l4 (l6 + 1) o7 m Q) ∧ ((iA ((iSr x l6)) 1) = 1 → (-2147483648 ≤ z ∧ z < 2147483648) ∧ ((iA ((iSr y l6)) 1) ≠ 1 → O_partOf_8 X d x y z (l4 - (jDv (l4 * z) 100)) (l6 + 1) (some (jDv (l4 * z) 100)) m Q) ∧ ((iA ((iSr y l6)) 1) = 1 → O_partOf_8 X d x y z (jDv (l4 * z) 100) (l6 + 1) (some (jDv (l4 * z) 100)) m Q)))) : O_partOf_8 X d x y z l4 l6 o7 m Q := by
  unfold O_partOf_8
  have hV : Clo (gP X.1 X.2.1) d 72 9 false (Rj (gP X.1 X.2.1) d 72 X.2.2.1 X.2.2.2 Q) := Rj_clo (q := mI72) rfl
  refine r_iload hV rfl rfl (pc' := 10) rfl ?_
  refine r_aload_n hV rfl rfl (pc' := 11) rfl ?_
  refine tt_getR hV (tg := 6) (ci := 6) (kf := 3) rfl rfl (by decide) (hB _ _ rfl) rfl (by decide) (pc' := 14) rfl ?_
  obtain ⟨c, hc, h⟩ := h
  have hcs := csh_of hB hc
  obtain ⟨g1, h⟩ := h
  refine tt_getP hV (tg := 0) (ci := 7) (kf := 0) rfl rfl (by decide) (hB _ _ rfl) rfl (by decide) (b := c) g1 (pc' := 17) rfl ?_
  refine tt_getI hV (tg := 0) (ci := 0) (kf := 4) rfl rfl (by decide) hcs.1 rfl (by decide) (pc' := 20) rfl ?_
  obtain ⟨g2, h⟩ := h
  obtain ⟨g3, h⟩ := h
  refine tt_icmp_ge hV rfl g2 g3 (pt := 72) (by decide) (pf := 23) rfl (fun hc => ?_) (fun hc => ?_)
  · replace h := h.1 hc
    refine r_lload hV rfl rfl (pc' := 74) rfl ?_
    exact rj_ret (q := mI72) rfl rfl rfl h
  · replace h := h.2 (Int.not_le.mp hc)
    refine r_iload_n hV rfl rfl (pc' := 24) rfl ?_
    refine r_iload hV rfl rfl (pc' := 26) rfl ?_
    refine tt_ishr hV rfl (pc' := 27) rfl ?_
    refine tt_iconst hV rfl (pc' := 28) rfl ?_
    refine tt_iand hV rfl (pc' := 29) rfl ?_
    refine tt_iconst hV rfl (pc' := 30) rfl ?_
    refine tt_icmp_ne hV rfl (i32R _) (by decide) (pt := 66) (by decide) (pf := 33) rfl (fun hc => ?_) (fun hc => ?_)
    · replace h := h.1 hc
      refine tt_iinc6 hV rfl rfl (pc' := 69) rfl ?_
      refine r_goto hV rfl (pc' := 8) (by decide) ?_
      exact h
    · replace h := h.2 (Decidable.not_not.mp hc)
      refine r_lload hV rfl rfl (pc' := 35) rfl ?_
      refine r_iload_n hV rfl rfl (pc' := 36) rfl ?_
      obtain ⟨g4, h⟩ := h
      refine tt_i2l hV rfl g4 (pc' := 37) rfl ?_
      refine tt_lmul hV rfl (pc' := 38) rfl ?_
      refine v_ldc2 hV (Int64.ofInt 100) rfl rfl rfl (pc' := 41) rfl ?_
      refine tt_ldiv hV rfl (by decide) (pc' := 42) rfl ?_
      refine tt_lstore7 hV rfl rfl (pc' := 44) rfl ?_
      refine r_iload_n hV rfl rfl (pc' := 45) rfl ?_
      refine r_iload hV rfl rfl (pc' := 47) rfl ?_
      refine tt_ishr hV rfl (pc' := 48) rfl ?_
      refine tt_iconst hV rfl (pc' := 49) rfl ?_
      refine tt_iand hV rfl (pc' := 50) rfl ?_
      refine tt_iconst hV rfl (pc' := 51) rfl ?_
      refine tt_icmp_ne hV rfl (i32R _) (by decide) (pt := 59) (by decide) (pf := 54) rfl (fun hc => ?_) (fun hc => ?_)
      · replace h := h.1 hc
        refine r_lload hV rfl rfl (pc' := 61) rfl ?_
        refine r_lload hV rfl rfl (pc' := 63) rfl ?_
        refine tt_lsub hV rfl (pc' := 64) rfl ?_
        refine tt_lstore4 hV rfl rfl (pc' := 66) rfl ?_
        refine tt_iinc6 hV rfl rfl (pc' := 69) rfl ?_
        refine r_goto hV rfl (pc' := 8) (by decide) ?_
        exact h
      · replace h := h.2 (Decidable.not_not.mp hc)
        refine r_lload hV rfl rfl (pc' := 56) rfl ?_
        refine r_goto hV rfl (pc' := 64) (by decide) ?_
        refine tt_lstore4 hV rfl rfl (pc' := 66) rfl ?_
        refine tt_iinc6 hV rfl rfl (pc' := 69) rfl ?_
        refine r_goto hV rfl (pc' := 8) (by decide) ?_
        exact h
theorem O_weightLeaningw {X : Cx} {d : Nat} {x : Int} {m : Mm} {Q : Int → Mm → Prop} (hB : Bsh X.2.2.1) (h : O_weightLeaning_5 X (d + 1) x 0 0 m Q) : O_weightLeaning X (d + 1) x m Q := by
  unfold O_weightLeaning
  have hV : Clo (gP X.1 X.2.1) (d + 1) 73 5 false (Rq (gP X.1 X.2.1) (d + 1) 73 X.2.2.1 X.2.2.2 Q) := Rq_clo (q := mI73) rfl
  refine tt_iconst hV rfl (pc' := 1) rfl ?_
  refine tt_istore3 hV rfl rfl (pc' := 2) rfl ?_
  refine tt_iconst hV rfl (pc' := 3) rfl ?_
  refine tt_istore4 hV rfl rfl (pc' := 5) rfl ?_
  exact h
theorem O_weightLeaning_5w {X : Cx} {d : Nat} {x : Int} {l3 : Int} {l4 : Int} {m : Mm} {Q : Int → Mm → Prop} (hB : Bsh X.2.2.1) (h : ∃ c : Nat, cO c ∧ (m 18 0 = (c : Int)) ∧ (-2147483648 ≤ l4 ∧ l4 < 2147483648) ∧ (-2147483648 ≤ (m c 4) ∧ (m c 4) < 2147483648) ∧ (m c 4 ≤ l4 → Q l3 m) ∧ (l4 < m c 4 → T_isAboard X d 17 l4 m (fun v23 m23 => (-2147483648 ≤ v23 ∧ v23 < 2147483648) ∧ (v23 = 0 → O_weightLeaning_5 X (d + 1) x l3 (l4 + 1) m23 Q) ∧ (v23 ≠ 0 → T_leanOf X d 17 l4 m23 (fun v32 m32 => (-2147483648 ≤ v32 ∧ v32 < 2147483648) ∧ (-2147483648 ≤ x ∧ x < 2147483648) ∧ (v32 ≠ x → O_weightLeaning_5 X (d + 1) x l3 (l4 + 1) m32 Q) ∧ (v32 = x → T_weightOf X d 17 l4 m32 (fun v43 m43 => O_weightLeaning_5 X (d + 1) x (l3 + v43) (l4 + 1) m43 Q))))))) : O_weightLeaning_5 X (d + 1) x l3 l4 m Q := by
  unfold O_weightLeaning_5
  have hV : Clo (gP X.1 X.2.1) (d + 1) 73 5 false (Rq (gP X.1 X.2.1) (d + 1) 73 X.2.2.1 X.2.2.2 Q) := Rq_clo (q := mI73) rfl
  refine r_iload hV rfl rfl (pc' := 7) rfl ?_
  refine r_aload_n hV rfl rfl (pc' := 8) rfl ?_
  refine tt_getR hV (tg := 6) (ci := 6) (kf := 3) rfl rfl (by decide) (hB _ _ rfl) rfl (by decide) (pc' := 11) rfl ?_
  obtain ⟨c, hc, h⟩ := h
  have hcs := csh_of hB hc
  obtain ⟨g1, h⟩ := h
  refine tt_getP hV (tg := 0) (ci := 7) (kf := 0) rfl rfl (by decide) (hB _ _ rfl) rfl (by decide) (b := c) g1 (pc' := 14) rfl ?_
  refine tt_getI hV (tg := 0) (ci := 0) (kf := 4) rfl rfl (by decide) hcs.1 rfl (by decide) (pc' := 17) rfl ?_
  obtain ⟨g2, h⟩ := h
  obtain ⟨g3, h⟩ := h
  refine tt_icmp_ge hV rfl g2 g3 (pt := 54) (by decide) (pf := 20) rfl (fun hc => ?_) (fun hc => ?_)
  · replace h := h.1 hc
    refine r_iload_n hV rfl rfl (pc' := 55) rfl ?_
    exact rq_ret (q := mI73) rfl rfl rfl h
  · replace h := h.2 (Int.not_le.mp hc)
    refine r_aload_n hV rfl rfl (pc' := 21) rfl ?_
    refine r_iload hV rfl rfl (pc' := 23) rfl ?_
    obtain ⟨v23, m23, h, hr⟩ := h
    refine tt_cv1I hV rfl rfl rfl (Wd_obj (hB _ _ rfl)) (Nat.le_of_ble_eq_true rfl) (Nat.le_of_ble_eq_true rfl) rfl hr (pc' := 26) rfl ?_
    obtain ⟨g4, h⟩ := h
    refine tt_if_eq hV rfl g4 (pt := 48) (by decide) (pf := 29) rfl (fun hc => ?_) (fun hc => ?_)
    · replace h := h.1 hc
      refine tt_iinc4 hV rfl rfl (pc' := 51) rfl ?_
      refine r_goto hV rfl (pc' := 5) (by decide) ?_
      exact h
    · replace h := h.2 hc
      refine r_aload_n hV rfl rfl (pc' := 30) rfl ?_
      refine r_iload hV rfl rfl (pc' := 32) rfl ?_
      obtain ⟨v32, m32, h, hr⟩ := h
      refine tt_cv1I hV rfl rfl rfl (Wd_obj (hB _ _ rfl)) (Nat.le_of_ble_eq_true rfl) (Nat.le_of_ble_eq_true rfl) rfl hr (pc' := 35) rfl ?_
      refine r_iload_n hV rfl rfl (pc' := 36) rfl ?_
      obtain ⟨g5, h⟩ := h
      obtain ⟨g6, h⟩ := h
      refine tt_icmp_ne hV rfl g5 g6 (pt := 48) (by decide) (pf := 39) rfl (fun hc => ?_) (fun hc => ?_)
      · replace h := h.1 hc
        refine tt_iinc4 hV rfl rfl (pc' := 51) rfl ?_
        refine r_goto hV rfl (pc' := 5) (by decide) ?_
        exact h
      · replace h := h.2 (Decidable.not_not.mp hc)
        refine r_iload_n hV rfl rfl (pc' := 40) rfl ?_
        refine r_aload_n hV rfl rfl (pc' := 41) rfl ?_
        refine r_iload hV rfl rfl (pc' := 43) rfl ?_
        obtain ⟨v43, m43, h, hr⟩ := h
        refine tt_cv1I hV rfl rfl rfl (Wd_obj (hB _ _ rfl)) (Nat.le_of_ble_eq_true rfl) (Nat.le_of_ble_eq_true rfl) rfl hr (pc' := 46) rfl ?_
        refine tt_iadd hV rfl (pc' := 47) rfl ?_
        refine tt_istore3 hV rfl rfl (pc' := 48) rfl ?_
        refine tt_iinc4 hV rfl rfl (pc' := 51) rfl ?_
        refine r_goto hV rfl (pc' := 5) (by decide) ?_
        exact h
theorem O_heaviestw {X : Cx} {d : Nat} {m : Mm} {Q : Int → Mm → Prop} (hB : Bsh X.2.2.1) (h : O_heaviest_4 X (d + 1) (-1) 0 m Q) : O_heaviest X (d + 1) m Q := by
  unfold O_heaviest
  have hV : Clo (gP X.1 X.2.1) (d + 1) 74 4 false (Rq (gP X.1 X.2.1) (d + 1) 74 X.2.2.1 X.2.2.2 Q) := Rq_clo (q := mI74) rfl
  refine tt_iconst hV rfl (pc' := 1) rfl ?_
  refine tt_istore2 hV rfl rfl (pc' := 2) rfl ?_
  refine tt_iconst hV rfl (pc' := 3) rfl ?_
  refine tt_istore3 hV rfl rfl (pc' := 4) rfl ?_
  exact h
theorem O_heaviest_4w {X : Cx} {d : Nat} {l2 : Int} {l3 : Int} {m : Mm} {Q : Int → Mm → Prop} (hB : Bsh X.2.2.1) (h : ∃ c : Nat, cO c ∧ (m 18 0 = (c : Int)) ∧ (-2147483648 ≤ l3 ∧ l3 < 2147483648) ∧ (-2147483648 ≤ (m c 4) ∧ (m c 4) < 2147483648) ∧ (m c 4 ≤ l3 → Q l2 m) ∧ (l3 < m c 4 → T_isAboard X d 17 l3 m (fun v20 m20 => (-2147483648 ≤ v20 ∧ v20 < 2147483648) ∧ (v20 = 0 → O_heaviest_4 X (d + 1) l2 (l3 + 1) m20 Q) ∧ (v20 ≠ 0 → (-2147483648 ≤ l2 ∧ l2 < 2147483648) ∧ (l2 = -1 → O_heaviest_4 X (d + 1) l3 (l3 + 1) m20 Q) ∧ (l2 ≠ -1 → T_weightOf X d 17 l3 m20 (fun v33 m33 => T_weightOf X d 17 l2 m33 (fun v38 m38 => (-2147483648 ≤ v33 ∧ v33 < 2147483648) ∧ (-2147483648 ≤ v38 ∧ v38 < 2147483648) ∧ (v33 ≤ v38 → O_heaviest_4 X (d + 1) l2 (l3 + 1) m38 Q) ∧ (v38 < v33 → O_heaviest_4 X (d + 1) l3 (l3 + 1) m38 Q)))))))) : O_heaviest_4 X (d + 1) l2 l3 m Q := by
  unfold O_heaviest_4
  have hV : Clo (gP X.1 X.2.1) (d + 1) 74 4 false (Rq (gP X.1 X.2.1) (d + 1) 74 X.2.2.1 X.2.2.2 Q) := Rq_clo (q := mI74) rfl
  refine r_iload_n hV rfl rfl (pc' := 5) rfl ?_
  refine r_aload_n hV rfl rfl (pc' := 6) rfl ?_
  refine tt_getR hV (tg := 6) (ci := 6) (kf := 3) rfl rfl (by decide) (hB _ _ rfl) rfl (by decide) (pc' := 9) rfl ?_
  obtain ⟨c, hc, h⟩ := h
  have hcs := csh_of hB hc
  obtain ⟨g1, h⟩ := h
  refine tt_getP hV (tg := 0) (ci := 7) (kf := 0) rfl rfl (by decide) (hB _ _ rfl) rfl (by decide) (b := c) g1 (pc' := 12) rfl ?_
  refine tt_getI hV (tg := 0) (ci := 0) (kf := 4) rfl rfl (by decide) hcs.1 rfl (by decide) (pc' := 15) rfl ?_
  obtain ⟨g2, h⟩ := h
  obtain ⟨g3, h⟩ := h
  refine tt_icmp_ge hV rfl g2 g3 (pt := 52) (by decide) (pf := 18) rfl (fun hc => ?_) (fun hc => ?_)
  · replace h := h.1 hc
    refine r_iload_n hV rfl rfl (pc' := 53) rfl ?_
    exact rq_ret (q := mI74) rfl rfl rfl h
  · replace h := h.2 (Int.not_le.mp hc)
    refine r_aload_n hV rfl rfl (pc' := 19) rfl ?_
    refine r_iload_n hV rfl rfl (pc' := 20) rfl ?_
    obtain ⟨v20, m20, h, hr⟩ := h
    refine tt_cv1I hV rfl rfl rfl (Wd_obj (hB _ _ rfl)) (Nat.le_of_ble_eq_true rfl) (Nat.le_of_ble_eq_true rfl) rfl hr (pc' := 23) rfl ?_
    obtain ⟨g4, h⟩ := h
    refine tt_if_eq hV rfl g4 (pt := 46) (by decide) (pf := 26) rfl (fun hc => ?_) (fun hc => ?_)
    · replace h := h.1 hc
      refine tt_iinc3 hV rfl rfl (pc' := 49) rfl ?_
      refine r_goto hV rfl (pc' := 4) (by decide) ?_
      exact h
    · replace h := h.2 hc
      refine r_iload_n hV rfl rfl (pc' := 27) rfl ?_
      refine tt_iconst hV rfl (pc' := 28) rfl ?_
      obtain ⟨g5, h⟩ := h
      refine tt_icmp_eq hV rfl g5 (by decide) (pt := 44) (by decide) (pf := 31) rfl (fun hc => ?_) (fun hc => ?_)
      · replace h := h.1 hc
        refine r_iload_n hV rfl rfl (pc' := 45) rfl ?_
        refine tt_istore2 hV rfl rfl (pc' := 46) rfl ?_
        refine tt_iinc3 hV rfl rfl (pc' := 49) rfl ?_
        refine r_goto hV rfl (pc' := 4) (by decide) ?_
        exact h
      · replace h := h.2 hc
        refine r_aload_n hV rfl rfl (pc' := 32) rfl ?_
        refine r_iload_n hV rfl rfl (pc' := 33) rfl ?_
        obtain ⟨v33, m33, h, hr⟩ := h
        refine tt_cv1I hV rfl rfl rfl (Wd_obj (hB _ _ rfl)) (Nat.le_of_ble_eq_true rfl) (Nat.le_of_ble_eq_true rfl) rfl hr (pc' := 36) rfl ?_
        refine r_aload_n hV rfl rfl (pc' := 37) rfl ?_
        refine r_iload_n hV rfl rfl (pc' := 38) rfl ?_
        obtain ⟨v38, m38, h, hr⟩ := h
        refine tt_cv1I hV rfl rfl rfl (Wd_obj (hB _ _ rfl)) (Nat.le_of_ble_eq_true rfl) (Nat.le_of_ble_eq_true rfl) rfl hr (pc' := 41) rfl ?_
        obtain ⟨g6, h⟩ := h
        obtain ⟨g7, h⟩ := h
        refine tt_icmp_le hV rfl g6 g7 (pt := 46) (by decide) (pf := 44) rfl (fun hc => ?_) (fun hc => ?_)
        · replace h := h.1 hc
          refine tt_iinc3 hV rfl rfl (pc' := 49) rfl ?_
          refine r_goto hV rfl (pc' := 4) (by decide) ?_
          exact h
        · replace h := h.2 (Int.not_le.mp hc)
          refine r_iload_n hV rfl rfl (pc' := 45) rfl ?_
          refine tt_istore2 hV rfl rfl (pc' := 46) rfl ?_
          refine tt_iinc3 hV rfl rfl (pc' := 49) rfl ?_
          refine r_goto hV rfl (pc' := 4) (by decide) ?_
          exact h
theorem O_moderatesw {X : Cx} {d : Nat} {m : Mm} {Q : Int → Mm → Prop} (hB : Bsh X.2.2.1) (h : O_moderates_4 X (d + 1) 0 0 m Q) : O_moderates X (d + 1) m Q := by
  unfold O_moderates
  have hV : Clo (gP X.1 X.2.1) (d + 1) 75 4 false (Rq (gP X.1 X.2.1) (d + 1) 75 X.2.2.1 X.2.2.2 Q) := Rq_clo (q := mI75) rfl
  refine tt_iconst hV rfl (pc' := 1) rfl ?_
  refine tt_istore2 hV rfl rfl (pc' := 2) rfl ?_
  refine tt_iconst hV rfl (pc' := 3) rfl ?_
  refine tt_istore3 hV rfl rfl (pc' := 4) rfl ?_
  exact h
theorem O_moderates_4w {X : Cx} {d : Nat} {l2 : Int} {l3 : Int} {m : Mm} {Q : Int → Mm → Prop} (hB : Bsh X.2.2.1) (h : ∃ c : Nat, cO c ∧ (m 18 0 = (c : Int)) ∧ (-2147483648 ≤ l3 ∧ l3 < 2147483648) ∧ (-2147483648 ≤ (m c 4) ∧ (m c 4) < 2147483648) ∧ (m c 4 ≤ l3 → Q l2 m) ∧ (l3 < m c 4 → T_leanOf X d 17 l3 m (fun v20 m20 => (-2147483648 ≤ v20 ∧ v20 < 2147483648) ∧ (v20 ≠ 1 → O_moderates_4 X (d + 1) l2 (l3 + 1) m20 Q) ∧ (v20 = 1 → O_moderates_4 X (d + 1) ((iO l2 ((iSl 1 l3)))) (l3 + 1) m20 Q)))) : O_moderates_4 X (d + 1) l2 l3 m Q := by
  unfold O_moderates_4
  have hV : Clo (gP X.1 X.2.1) (d + 1) 75 4 false (Rq (gP X.1 X.2.1) (d + 1) 75 X.2.2.1 X.2.2.2 Q) := Rq_clo (q := mI75) rfl
  refine r_iload_n hV rfl rfl (pc' := 5) rfl ?_
  refine r_aload_n hV rfl rfl (pc' := 6) rfl ?_
  refine tt_getR hV (tg := 6) (ci := 6) (kf := 3) rfl rfl (by decide) (hB _ _ rfl) rfl (by decide) (pc' := 9) rfl ?_
  obtain ⟨c, hc, h⟩ := h
  have hcs := csh_of hB hc
  obtain ⟨g1, h⟩ := h
  refine tt_getP hV (tg := 0) (ci := 7) (kf := 0) rfl rfl (by decide) (hB _ _ rfl) rfl (by decide) (b := c) g1 (pc' := 12) rfl ?_
  refine tt_getI hV (tg := 0) (ci := 0) (kf := 4) rfl rfl (by decide) hcs.1 rfl (by decide) (pc' := 15) rfl ?_
  obtain ⟨g2, h⟩ := h
  obtain ⟨g3, h⟩ := h
  refine tt_icmp_ge hV rfl g2 g3 (pt := 39) (by decide) (pf := 18) rfl (fun hc => ?_) (fun hc => ?_)
  · replace h := h.1 hc
    refine r_iload_n hV rfl rfl (pc' := 40) rfl ?_
    exact rq_ret (q := mI75) rfl rfl rfl h
  · replace h := h.2 (Int.not_le.mp hc)
    refine r_aload_n hV rfl rfl (pc' := 19) rfl ?_
    refine r_iload_n hV rfl rfl (pc' := 20) rfl ?_
    obtain ⟨v20, m20, h, hr⟩ := h
    refine tt_cv1I hV rfl rfl rfl (Wd_obj (hB _ _ rfl)) (Nat.le_of_ble_eq_true rfl) (Nat.le_of_ble_eq_true rfl) rfl hr (pc' := 23) rfl ?_
    refine tt_iconst hV rfl (pc' := 24) rfl ?_
    obtain ⟨g4, h⟩ := h
    refine tt_icmp_ne hV rfl g4 (by decide) (pt := 33) (by decide) (pf := 27) rfl (fun hc => ?_) (fun hc => ?_)
    · replace h := h.1 hc
      refine tt_iinc3 hV rfl rfl (pc' := 36) rfl ?_
      refine r_goto hV rfl (pc' := 4) (by decide) ?_
      exact h
    · replace h := h.2 (Decidable.not_not.mp hc)
      refine r_iload_n hV rfl rfl (pc' := 28) rfl ?_
      refine tt_iconst hV rfl (pc' := 29) rfl ?_
      refine r_iload_n hV rfl rfl (pc' := 30) rfl ?_
      refine tt_ishl hV rfl (pc' := 31) rfl ?_
      refine tt_ior hV rfl (pc' := 32) rfl ?_
      refine tt_istore2 hV rfl rfl (pc' := 33) rfl ?_
      refine tt_iinc3 hV rfl rfl (pc' := 36) rfl ?_
      refine r_goto hV rfl (pc' := 4) (by decide) ?_
      exact h
theorem O_heelsToStayw {X : Cx} {d : Nat} {x : Int} {m : Mm} {Q : Int → Mm → Prop} (hB : Bsh X.2.2.1) (h : O_heelsToStay_2 X (d + 1) x 0 m Q) : O_heelsToStay X (d + 1) x m Q := by
  unfold O_heelsToStay
  have hV : Clo (gP X.1 X.2.1) (d + 1) 76 4 false (Rq (gP X.1 X.2.1) (d + 1) 76 X.2.2.1 X.2.2.2 Q) := Rq_clo (q := mI76) rfl
  refine tt_iconst hV rfl (pc' := 1) rfl ?_
  refine tt_istore3 hV rfl rfl (pc' := 2) rfl ?_
  exact h
theorem O_heelsToStay_2w {X : Cx} {d : Nat} {x : Int} {l3 : Int} {m : Mm} {Q : Int → Mm → Prop} (hB : Bsh X.2.2.1) (h : (-2147483648 ≤ l3 ∧ l3 < 2147483648) ∧ (9 < l3 → Q (-1) m) ∧ (l3 ≤ 9 → T_copy X d 69 17 m (fun m13 => T_with X d (m13 69 2) x l3 m13 (fun v29 m29 => S_sideAtEnd X d 69 (up m29 69 2 v29) (fun v43 m43 => T_isAboard X d 69 x m43 (fun v52 m52 => (-2147483648 ≤ v52 ∧ v52 < 2147483648) ∧ (v52 = 0 → O_heelsToStay_2 X (d + 1) x (l3 + 1) m52 Q) ∧ (v52 ≠ 0 → Q l3 m52))))))) : O_heelsToStay_2 X (d + 1) x l3 m Q := by
  unfold O_heelsToStay_2
  have hV : Clo (gP X.1 X.2.1) (d + 1) 76 4 false (Rq (gP X.1 X.2.1) (d + 1) 76 X.2.2.1 X.2.2.2 Q) := Rq_clo (q := mI76) rfl
  refine r_iload_n hV rfl rfl (pc' := 3) rfl ?_
  refine tt_bipush hV rfl (by decide) (pc' := 5) rfl ?_
  obtain ⟨g1, h⟩ := h
  refine tt_icmp_gt hV rfl g1 (by decide) (pt := 66) (by decide) (pf := 8) rfl (fun hc => ?_) (fun hc => ?_)
  · replace h := h.1 hc
    refine tt_iconst hV rfl (pc' := 67) rfl ?_
    exact rq_ret (q := mI76) rfl rfl rfl h
  · replace h := h.2 (Int.not_lt.mp hc)
    refine r_aload_n hV rfl rfl (pc' := 9) rfl ?_
    refine tt_getR hV (tg := 6) (ci := 6) (kf := 4) rfl rfl (by decide) (hB _ _ rfl) rfl (by decide) (pc' := 12) rfl ?_
    refine r_aload_n hV rfl rfl (pc' := 13) rfl ?_
    obtain ⟨m13, h, hr⟩ := h
    refine tt_cv1U hV rfl rfl rfl (Wd_obj (hB _ _ rfl)) (Nat.le_of_ble_eq_true rfl) (Nat.le_of_ble_eq_true rfl) rfl hr (pc' := 16) rfl ?_
    refine r_aload_n hV rfl rfl (pc' := 17) rfl ?_
    refine tt_getR hV (tg := 6) (ci := 6) (kf := 4) rfl rfl (by decide) (hB _ _ rfl) rfl (by decide) (pc' := 20) rfl ?_
    refine r_aload_n hV rfl rfl (pc' := 21) rfl ?_
    refine tt_getR hV (tg := 6) (ci := 6) (kf := 4) rfl rfl (by decide) (hB _ _ rfl) rfl (by decide) (pc' := 24) rfl ?_
    refine tt_getI hV (tg := 0) (ci := 8) (kf := 2) rfl rfl (by decide) (hB _ _ rfl) rfl (by decide) (pc' := 27) rfl ?_
    refine r_iload_n hV rfl rfl (pc' := 28) rfl ?_
    refine r_iload_n hV rfl rfl (pc' := 29) rfl ?_
    obtain ⟨v29, m29, h, hr⟩ := h
    refine tt_cs3I hV rfl rfl rfl (Nat.le_of_ble_eq_true rfl) (Nat.le_of_ble_eq_true rfl) rfl hr (pc' := 32) rfl ?_
    refine tt_putI hV (tg := 0) (ci := 8) (kf := 2) rfl rfl (Or.inl rfl) (hB _ _ rfl) rfl (by decide) rfl (pc' := 35) rfl ?_
    refine r_aload_n hV rfl rfl (pc' := 36) rfl ?_
    refine tt_getR hV (tg := 6) (ci := 6) (kf := 3) rfl rfl (by decide) (hB _ _ rfl) rfl (by decide) (pc' := 39) rfl ?_
    refine r_aload_n hV rfl rfl (pc' := 40) rfl ?_
    refine tt_getR hV (tg := 6) (ci := 6) (kf := 4) rfl rfl (by decide) (hB _ _ rfl) rfl (by decide) (pc' := 43) rfl ?_
    obtain ⟨v43, m43, h, hr⟩ := h
    refine tt_cv1I hV rfl rfl rfl (Wd_obj (hB _ _ rfl)) (Nat.le_of_ble_eq_true rfl) (Nat.le_of_ble_eq_true rfl) rfl hr (pc' := 46) rfl ?_
    refine r_pop hV rfl rfl (pc' := 47) rfl ?_
    refine r_aload_n hV rfl rfl (pc' := 48) rfl ?_
    refine tt_getR hV (tg := 6) (ci := 6) (kf := 4) rfl rfl (by decide) (hB _ _ rfl) rfl (by decide) (pc' := 51) rfl ?_
    refine r_iload_n hV rfl rfl (pc' := 52) rfl ?_
    obtain ⟨v52, m52, h, hr⟩ := h
    refine tt_cv1I hV rfl rfl rfl (Wd_obj (hB _ _ rfl)) (Nat.le_of_ble_eq_true rfl) (Nat.le_of_ble_eq_true rfl) rfl hr (pc' := 55) rfl ?_
    obtain ⟨g2, h⟩ := h
    refine tt_if_eq hV rfl g2 (pt := 60) (by decide) (pf := 58) rfl (fun hc => ?_) (fun hc => ?_)
    · replace h := h.1 hc
      refine tt_iinc3 hV rfl rfl (pc' := 63) rfl ?_
      refine r_goto hV rfl (pc' := 2) (by decide) ?_
      exact h
    · replace h := h.2 hc
      refine r_iload_n hV rfl rfl (pc' := 59) rfl ?_
      exact rq_ret (q := mI76) rfl rfl rfl h
theorem O_bumpsAheadw {X : Cx} {d : Nat} {m : Mm} {Q : Int → Mm → Prop} (hB : Bsh X.2.2.1) (h : T_copy X d 69 17 m (fun m7 => O_bumpsAhead_15 X (d + 1) 0 (m7 17 7) m7 Q)) : O_bumpsAhead X (d + 1) m Q := by
  unfold O_bumpsAhead
  have hV : Clo (gP X.1 X.2.1) (d + 1) 77 4 false (Rq (gP X.1 X.2.1) (d + 1) 77 X.2.2.1 X.2.2.2 Q) := Rq_clo (q := mI77) rfl
  refine tt_iconst hV rfl (pc' := 1) rfl ?_
  refine tt_istore2 hV rfl rfl (pc' := 2) rfl ?_
  refine r_aload_n hV rfl rfl (pc' := 3) rfl ?_
  refine tt_getR hV (tg := 6) (ci := 6) (kf := 4) rfl rfl (by decide) (hB _ _ rfl) rfl (by decide) (pc' := 6) rfl ?_
  refine r_aload_n hV rfl rfl (pc' := 7) rfl ?_
  obtain ⟨m7, h, hr⟩ := h
  refine tt_cv1U hV rfl rfl rfl (Wd_obj (hB _ _ rfl)) (Nat.le_of_ble_eq_true rfl) (Nat.le_of_ble_eq_true rfl) rfl hr (pc' := 10) rfl ?_
  refine r_aload_n hV rfl rfl (pc' := 11) rfl ?_
  refine tt_getI hV (tg := 0) (ci := 8) (kf := 7) rfl rfl (by decide) (hB _ _ rfl) rfl (by decide) (pc' := 14) rfl ?_
  refine tt_istore3 hV rfl rfl (pc' := 15) rfl ?_
  exact h
theorem O_bumpsAhead_15w {X : Cx} {d : Nat} {l2 : Int} {l3 : Int} {m : Mm} {Q : Int → Mm → Prop} (hB : Bsh X.2.2.1) (h : ∃ c : Nat, cO c ∧ (m 18 0 = (c : Int)) ∧ K_lastRow X d c m (fun v23 m23 => (-2147483648 ≤ l3 ∧ l3 < 2147483648) ∧ (-2147483648 ≤ v23 ∧ v23 < 2147483648) ∧ (v23 ≤ l3 → Q l2 m23) ∧ (l3 < v23 → S_step X d 69 m23 (fun m37 => (-2147483648 ≤ (m37 18 4) ∧ (m37 18 4) < 2147483648) ∧ (m37 18 4 = -1 → O_bumpsAhead_15 X (d + 1) l2 (l3 + 1) m37 Q) ∧ (m37 18 4 ≠ -1 → O_bumpsAhead_15 X (d + 1) ((iO l2 ((iSl 1 (m37 18 4))))) (l3 + 1) m37 Q))))) : O_bumpsAhead_15 X (d + 1) l2 l3 m Q := by
  unfold O_bumpsAhead_15
  have hV : Clo (gP X.1 X.2.1) (d + 1) 77 4 false (Rq (gP X.1 X.2.1) (d + 1) 77 X.2.2.1 X.2.2.2 Q) := Rq_clo (q := mI77) rfl
  refine r_iload_n hV rfl rfl (pc' := 16) rfl ?_
  refine r_aload_n hV rfl rfl (pc' := 17) rfl ?_
  refine tt_getR hV (tg := 6) (ci := 6) (kf := 3) rfl rfl (by decide) (hB _ _ rfl) rfl (by decide) (pc' := 20) rfl ?_
  obtain ⟨c, hc, h⟩ := h
  have hcs := csh_of hB hc
  obtain ⟨g1, h⟩ := h
  refine tt_getP hV (tg := 0) (ci := 7) (kf := 0) rfl rfl (by decide) (hB _ _ rfl) rfl (by decide) (b := c) g1 (pc' := 23) rfl ?_
  obtain ⟨v23, m23, h, hr⟩ := h
  refine tt_cv0I hV rfl rfl rfl (Wd_obj hcs.1) (Nat.le_of_ble_eq_true rfl) (Nat.le_of_ble_eq_true rfl) rfl hr (pc' := 26) rfl ?_
  obtain ⟨g2, h⟩ := h
  obtain ⟨g3, h⟩ := h
  refine tt_icmp_ge hV rfl g2 g3 (pt := 69) (by decide) (pf := 29) rfl (fun hc => ?_) (fun hc => ?_)
  · replace h := h.1 hc
    refine r_iload_n hV rfl rfl (pc' := 70) rfl ?_
    exact rq_ret (q := mI77) rfl rfl rfl h
  · replace h := h.2 (Int.not_le.mp hc)
    refine r_aload_n hV rfl rfl (pc' := 30) rfl ?_
    refine tt_getR hV (tg := 6) (ci := 6) (kf := 3) rfl rfl (by decide) (hB _ _ rfl) rfl (by decide) (pc' := 33) rfl ?_
    refine r_aload_n hV rfl rfl (pc' := 34) rfl ?_
    refine tt_getR hV (tg := 6) (ci := 6) (kf := 4) rfl rfl (by decide) (hB _ _ rfl) rfl (by decide) (pc' := 37) rfl ?_
    obtain ⟨m37, h, hr⟩ := h
    refine tt_cv1U hV rfl rfl rfl (Wd_obj (hB _ _ rfl)) (Nat.le_of_ble_eq_true rfl) (Nat.le_of_ble_eq_true rfl) rfl hr (pc' := 40) rfl ?_
    refine r_aload_n hV rfl rfl (pc' := 41) rfl ?_
    refine tt_getR hV (tg := 6) (ci := 6) (kf := 3) rfl rfl (by decide) (hB _ _ rfl) rfl (by decide) (pc' := 44) rfl ?_
    refine tt_getI hV (tg := 0) (ci := 7) (kf := 4) rfl rfl (by decide) (hB _ _ rfl) rfl (by decide) (pc' := 47) rfl ?_
    refine tt_iconst hV rfl (pc' := 48) rfl ?_
    obtain ⟨g4, h⟩ := h
    refine tt_icmp_eq hV rfl g4 (by decide) (pt := 63) (by decide) (pf := 51) rfl (fun hc => ?_) (fun hc => ?_)
    · replace h := h.1 hc
      refine tt_iinc3 hV rfl rfl (pc' := 66) rfl ?_
      refine r_goto hV rfl (pc' := 15) (by decide) ?_
      exact h
    · replace h := h.2 hc
      refine r_iload_n hV rfl rfl (pc' := 52) rfl ?_
      refine tt_iconst hV rfl (pc' := 53) rfl ?_
      refine r_aload_n hV rfl rfl (pc' := 54) rfl ?_
      refine tt_getR hV (tg := 6) (ci := 6) (kf := 3) rfl rfl (by decide) (hB _ _ rfl) rfl (by decide) (pc' := 57) rfl ?_
      refine tt_getI hV (tg := 0) (ci := 7) (kf := 4) rfl rfl (by decide) (hB _ _ rfl) rfl (by decide) (pc' := 60) rfl ?_
      refine tt_ishl hV rfl (pc' := 61) rfl ?_
      refine tt_ior hV rfl (pc' := 62) rfl ?_
      refine tt_istore2 hV rfl rfl (pc' := 63) rfl ?_
      refine tt_iinc3 hV rfl rfl (pc' := 66) rfl ?_
      refine r_goto hV rfl (pc' := 15) (by decide) ?_
      exact h
theorem S_pushOfw {X : Cx} {d : Nat} {s : Nat} {x : Int} {m : Mm} {Q : Int → Mm → Prop} (hB : Bsh X.2.2.1) (hs : sO s) (h : ((m 18 1 < 0 ∧ T_weightOf X d s x m (fun v11 m11 => Q v11 m11)) ∨ ∃ l a : Nat, m 18 1 = (l : Int) ∧ X.2.2.1[l]? = some (.inl (4, [a + 3])) ∧ T_weightOf X d s x m (fun v22 m22 => T_heelsOf X d s x (up m22 19 0 v22) (fun v33 m33 => T_seatOf X d s x (up m33 19 1 v33) (fun v44 m44 => J_bitCount X d (m44 s 4) (up m44 19 2 v44) (fun v57 m57 => W_worth X d l (up (up (up m57 19 3 v57) 19 4 (m57 s 7)) 19 5 (m57 s 8)) (fun v90 m90 => (-2147483648 ≤ v90 ∧ v90 < 2147483648) ∧ (0 ≤ v90 → (v90 ≤ 99 → Q v90 m90) ∧ (99 < v90 → Q 99 m90)) ∧ (v90 < 0 → Q 0 m90)))))))) : S_pushOf X (d + 1) s x m Q := by
  unfold S_pushOf
  have hV : Clo (gP X.1 X.2.1) (d + 1) 79 5 false (Rq (gP X.1 X.2.1) (d + 1) 79 X.2.2.1 X.2.2.2 Q) := Rq_clo (q := mI79) rfl
  refine r_aload_n hV rfl rfl (pc' := 1) rfl ?_
  rcases h with ⟨hc, h⟩ | ⟨l, a, hc, hlsh, h⟩
  · refine tt_getN hV (tg := 0) (ci := 7) (kf := 1) rfl rfl (by decide) (hB _ _ rfl) rfl (by decide) hc (pc' := 4) rfl ?_
    refine tt_astoreN3 hV rfl rfl (pc' := 5) rfl ?_
    refine r_aloadN_n hV rfl rfl (pc' := 6) rfl ?_
    refine r_ifnonnullN hV rfl (pc' := 9) rfl ?_
    refine r_aload_n hV rfl rfl (pc' := 10) rfl ?_
    refine r_iload_n hV rfl rfl (pc' := 11) rfl ?_
    obtain ⟨v11, m11, h, hr⟩ := h
    refine tt_cv1I hV rfl rfl rfl (Wd_obj (sSh hB hs)) (Nat.le_of_ble_eq_true rfl) (Nat.le_of_ble_eq_true rfl) rfl hr (pc' := 14) rfl ?_
    exact rq_ret (q := mI79) rfl rfl rfl h
  · refine tt_getP hV (tg := 0) (ci := 7) (kf := 1) rfl rfl (by decide) (hB _ _ rfl) rfl (by decide) (b := l) hc (pc' := 4) rfl ?_
    refine tt_astore3 hV rfl rfl (pc' := 5) rfl ?_
    refine r_aload_n hV rfl rfl (pc' := 6) rfl ?_
    refine r_ifnonnull hV rfl (pc' := 15) (by decide) ?_
    refine r_aload_n hV rfl rfl (pc' := 16) rfl ?_
    refine tt_getR hV (tg := 6) (ci := 7) (kf := 5) rfl rfl (by decide) (hB _ _ rfl) rfl (by decide) (pc' := 19) rfl ?_
    refine tt_iconst hV rfl (pc' := 20) rfl ?_
    refine r_aload_n hV rfl rfl (pc' := 21) rfl ?_
    refine r_iload_n hV rfl rfl (pc' := 22) rfl ?_
    obtain ⟨v22, m22, h, hr⟩ := h
    refine tt_cv1I hV rfl rfl rfl (Wd_obj (sSh hB hs)) (Nat.le_of_ble_eq_true rfl) (Nat.le_of_ble_eq_true rfl) rfl hr (pc' := 25) rfl ?_
    refine q_iast hV rfl (hB _ _ rfl) (Nat.le_of_ble_eq_true rfl) rfl (by decide) (pc' := 26) rfl ?_
    refine r_aload_n hV rfl rfl (pc' := 27) rfl ?_
    refine tt_getR hV (tg := 6) (ci := 7) (kf := 5) rfl rfl (by decide) (hB _ _ rfl) rfl (by decide) (pc' := 30) rfl ?_
    refine tt_iconst hV rfl (pc' := 31) rfl ?_
    refine r_aload_n hV rfl rfl (pc' := 32) rfl ?_
    refine r_iload_n hV rfl rfl (pc' := 33) rfl ?_
    obtain ⟨v33, m33, h, hr⟩ := h
    refine tt_cv1I hV rfl rfl rfl (Wd_obj (sSh hB hs)) (Nat.le_of_ble_eq_true rfl) (Nat.le_of_ble_eq_true rfl) rfl hr (pc' := 36) rfl ?_
    refine q_iast hV rfl (hB _ _ rfl) (Nat.le_of_ble_eq_true rfl) rfl (by decide) (pc' := 37) rfl ?_
    refine r_aload_n hV rfl rfl (pc' := 38) rfl ?_
    refine tt_getR hV (tg := 6) (ci := 7) (kf := 5) rfl rfl (by decide) (hB _ _ rfl) rfl (by decide) (pc' := 41) rfl ?_
    refine tt_iconst hV rfl (pc' := 42) rfl ?_
    refine r_aload_n hV rfl rfl (pc' := 43) rfl ?_
    refine r_iload_n hV rfl rfl (pc' := 44) rfl ?_
    obtain ⟨v44, m44, h, hr⟩ := h
    refine tt_cv1I hV rfl rfl rfl (Wd_obj (sSh hB hs)) (Nat.le_of_ble_eq_true rfl) (Nat.le_of_ble_eq_true rfl) rfl hr (pc' := 47) rfl ?_
    refine q_iast hV rfl (hB _ _ rfl) (Nat.le_of_ble_eq_true rfl) rfl (by decide) (pc' := 48) rfl ?_
    refine r_aload_n hV rfl rfl (pc' := 49) rfl ?_
    refine tt_getR hV (tg := 6) (ci := 7) (kf := 5) rfl rfl (by decide) (hB _ _ rfl) rfl (by decide) (pc' := 52) rfl ?_
    refine tt_iconst hV rfl (pc' := 53) rfl ?_
    refine r_aload_n hV rfl rfl (pc' := 54) rfl ?_
    refine tt_getI hV (tg := 0) (ci := 8) (kf := 4) rfl rfl (by decide) (sSh hB hs) rfl (by decide) (pc' := 57) rfl ?_
    refine vtI (y := m44 s 4) (up_ne (Or.inl (by clear h; omega))) ?_
    obtain ⟨v57, m57, h, hr⟩ := h
    refine tt_cs1I hV rfl rfl rfl (Nat.le_of_ble_eq_true rfl) (Nat.le_of_ble_eq_true rfl) rfl hr (pc' := 60) rfl ?_
    refine q_iast hV rfl (hB _ _ rfl) (Nat.le_of_ble_eq_true rfl) rfl (by decide) (pc' := 61) rfl ?_
    refine r_aload_n hV rfl rfl (pc' := 62) rfl ?_
    refine tt_getR hV (tg := 6) (ci := 7) (kf := 5) rfl rfl (by decide) (hB _ _ rfl) rfl (by decide) (pc' := 65) rfl ?_
    refine tt_iconst hV rfl (pc' := 66) rfl ?_
    refine r_aload_n hV rfl rfl (pc' := 67) rfl ?_
    refine tt_getI hV (tg := 0) (ci := 8) (kf := 7) rfl rfl (by decide) (sSh hB hs) rfl (by decide) (pc' := 70) rfl ?_
    refine vtI (y := m57 s 7) (up_ne (Or.inl (by clear h; omega))) ?_
    refine q_iast hV rfl (hB _ _ rfl) (Nat.le_of_ble_eq_true rfl) rfl (by decide) (pc' := 71) rfl ?_
    refine r_aload_n hV rfl rfl (pc' := 72) rfl ?_
    refine tt_getR hV (tg := 6) (ci := 7) (kf := 5) rfl rfl (by decide) (hB _ _ rfl) rfl (by decide) (pc' := 75) rfl ?_
    refine tt_iconst hV rfl (pc' := 76) rfl ?_
    refine r_aload_n hV rfl rfl (pc' := 77) rfl ?_
    refine tt_getI hV (tg := 0) (ci := 8) (kf := 8) rfl rfl (by decide) (sSh hB hs) rfl (by decide) (pc' := 80) rfl ?_
    refine vtI (y := m57 s 8) ((up_ne (Or.inl (by clear h; omega))).trans (up_ne (Or.inl (by clear h; omega)))) ?_
    refine q_iast hV rfl (hB _ _ rfl) (Nat.le_of_ble_eq_true rfl) rfl (by decide) (pc' := 81) rfl ?_
    refine r_aload_n hV rfl rfl (pc' := 82) rfl ?_
    refine r_aload_n hV rfl rfl (pc' := 83) rfl ?_
    refine tt_getR hV (tg := 6) (ci := 7) (kf := 5) rfl rfl (by decide) (hB _ _ rfl) rfl (by decide) (pc' := 86) rfl ?_
    refine r_aload_n hV rfl rfl (pc' := 87) rfl ?_
    refine tt_getR hV (tg := 6) (ci := 7) (kf := 6) rfl rfl (by decide) (hB _ _ rfl) rfl (by decide) (pc' := 90) rfl ?_
    obtain ⟨v90, m90, h, hr⟩ := h
    refine tt_cv2I hV rfl rfl rfl (Wd_obj hlsh) (Nat.le_of_ble_eq_true rfl) (Nat.le_of_ble_eq_true rfl) rfl hr (pc' := 93) rfl ?_
    refine tt_istore4 hV rfl rfl (pc' := 95) rfl ?_
    refine r_iload hV rfl rfl (pc' := 97) rfl ?_
    obtain ⟨g1, h⟩ := h
    refine tt_if_ge hV rfl g1 (pt := 104) (by decide) (pf := 100) rfl (fun hc => ?_) (fun hc => ?_)
    · replace h := h.1 hc
      refine r_iload hV rfl rfl (pc' := 106) rfl ?_
      refine tt_bipush hV rfl (by decide) (pc' := 108) rfl ?_
      refine tt_icmp_le hV rfl g1 (by decide) (pt := 116) (by decide) (pf := 111) rfl (fun hc => ?_) (fun hc => ?_)
      · replace h := h.1 hc
        refine r_iload hV rfl rfl (pc' := 118) rfl ?_
        exact rq_ret (q := mI79) rfl rfl rfl h
      · replace h := h.2 (Int.not_le.mp hc)
        refine tt_bipush hV rfl (by decide) (pc' := 113) rfl ?_
        refine r_goto hV rfl (pc' := 118) (by decide) ?_
        exact rq_ret (q := mI79) rfl rfl rfl h
    · replace h := h.2 (Int.not_le.mp hc)
      refine tt_iconst hV rfl (pc' := 101) rfl ?_
      refine r_goto hV rfl (pc' := 118) (by decide) ?_
      exact rq_ret (q := mI79) rfl rfl rfl h
theorem S_sumOfw {X : Cx} {d : Nat} {s : Nat} {m : Mm} {Q : Int → Mm → Prop} (hB : Bsh X.2.2.1) (hs : sO s) (h : S_sumOf_4 X (d + 1) s 0 0 none m Q) : S_sumOf X (d + 1) s m Q := by
  unfold S_sumOf
  have hV : Clo (gP X.1 X.2.1) (d + 1) 80 5 false (Rq (gP X.1 X.2.1) (d + 1) 80 X.2.2.1 X.2.2.2 Q) := Rq_clo (q := mI80) rfl
  refine tt_iconst hV rfl (pc' := 1) rfl ?_
  refine tt_istore2 hV rfl rfl (pc' := 2) rfl ?_
  refine tt_iconst hV rfl (pc' := 3) rfl ?_
  refine tt_istore3 hV rfl rfl (pc' := 4) rfl ?_
  exact h
theorem S_sumOf_4w {X : Cx} {d : Nat} {s : Nat} {l2 : Int} {l3 : Int} {o4 : Option Int} {m : Mm} {Q : Int → Mm → Prop} (hB : Bsh X.2.2.1) (hs : sO s) (h : ∃ c : Nat, cO c ∧ (m 18 0 = (c : Int)) ∧ (-2147483648 ≤ l3 ∧ l3 < 2147483648) ∧ (-2147483648 ≤ (m c 4) ∧ (m c 4) < 2147483648) ∧ (m c 4 ≤ l3 → ((iA ((iSr (m c 5) (m s 7))) 1) ≠ 1 → Q l2 m) ∧ ((iA ((iSr (m c 5) (m s 7))) 1) = 1 → Q (2 * l2) m)) ∧ (l3 < m c 4 → T_leanOf X d s l3 m (fun v17 m17 => (-2147483648 ≤ v17 ∧ v17 < 2147483648) ∧ (v17 = 1 → S_sumOf_4 X (d + 1) s l2 (l3 + 1) (some v17) m17 Q) ∧ (v17 ≠ 1 → T_isAboard X d s l3 m17 (fun v30 m30 => (-2147483648 ≤ v30 ∧ v30 < 2147483648) ∧ (v30 = 0 → S_sumOf_4 X (d + 1) s l2 (l3 + 1) (some v17) m30 Q) ∧ (v30 ≠ 0 → S_pushOf X d s l3 m30 (fun v44 m44 => S_sumOf_4 X (d + 1) s (l2 + ((v17 - 1) * v44)) (l3 + 1) (some v17) m44 Q))))))) : S_sumOf_4 X (d + 1) s l2 l3 o4 m Q := by
  unfold S_sumOf_4
  have hV : Clo (gP X.1 X.2.1) (d + 1) 80 5 false (Rq (gP X.1 X.2.1) (d + 1) 80 X.2.2.1 X.2.2.2 Q) := Rq_clo (q := mI80) rfl
  refine r_iload_n hV rfl rfl (pc' := 5) rfl ?_
  refine r_aload_n hV rfl rfl (pc' := 6) rfl ?_
  obtain ⟨c, hc, h⟩ := h
  have hcs := csh_of hB hc
  obtain ⟨g1, h⟩ := h
  refine tt_getP hV (tg := 0) (ci := 7) (kf := 0) rfl rfl (by decide) (hB _ _ rfl) rfl (by decide) (b := c) g1 (pc' := 9) rfl ?_
  refine tt_getI hV (tg := 0) (ci := 0) (kf := 4) rfl rfl (by decide) hcs.1 rfl (by decide) (pc' := 12) rfl ?_
  obtain ⟨g2, h⟩ := h
  obtain ⟨g3, h⟩ := h
  refine tt_icmp_ge hV rfl g2 g3 (pt := 56) (by decide) (pf := 15) rfl (fun hc => ?_) (fun hc => ?_)
  · replace h := h.1 hc
    refine r_aload_n hV rfl rfl (pc' := 57) rfl ?_
    refine tt_getP hV (tg := 0) (ci := 7) (kf := 0) rfl rfl (by decide) (hB _ _ rfl) rfl (by decide) (b := c) g1 (pc' := 60) rfl ?_
    refine tt_getI hV (tg := 0) (ci := 0) (kf := 5) rfl rfl (by decide) hcs.1 rfl (by decide) (pc' := 63) rfl ?_
    refine r_aload_n hV rfl rfl (pc' := 64) rfl ?_
    refine tt_getI hV (tg := 0) (ci := 8) (kf := 7) rfl rfl (by decide) (sSh hB hs) rfl (by decide) (pc' := 67) rfl ?_
    refine tt_ishr hV rfl (pc' := 68) rfl ?_
    refine tt_iconst hV rfl (pc' := 69) rfl ?_
    refine tt_iand hV rfl (pc' := 70) rfl ?_
    refine tt_iconst hV rfl (pc' := 71) rfl ?_
    refine tt_icmp_ne hV rfl (i32R _) (by decide) (pt := 80) (by decide) (pf := 74) rfl (fun hc => ?_) (fun hc => ?_)
    · replace h := h.1 hc
      refine r_iload_n hV rfl rfl (pc' := 81) rfl ?_
      exact rq_ret (q := mI80) rfl rfl rfl h
    · replace h := h.2 (Decidable.not_not.mp hc)
      refine tt_iconst hV rfl (pc' := 75) rfl ?_
      refine r_iload_n hV rfl rfl (pc' := 76) rfl ?_
      refine tt_imul hV rfl (pc' := 77) rfl ?_
      refine r_goto hV rfl (pc' := 81) (by decide) ?_
      exact rq_ret (q := mI80) rfl rfl rfl h
  · replace h := h.2 (Int.not_le.mp hc)
    refine r_aload_n hV rfl rfl (pc' := 16) rfl ?_
    refine r_iload_n hV rfl rfl (pc' := 17) rfl ?_
    obtain ⟨v17, m17, h, hr⟩ := h
    refine tt_cv1I hV rfl rfl rfl (Wd_obj (sSh hB hs)) (Nat.le_of_ble_eq_true rfl) (Nat.le_of_ble_eq_true rfl) rfl hr (pc' := 20) rfl ?_
    refine tt_istore4 hV rfl rfl (pc' := 22) rfl ?_
    refine r_iload hV rfl rfl (pc' := 24) rfl ?_
    refine tt_iconst hV rfl (pc' := 25) rfl ?_
    obtain ⟨g4, h⟩ := h
    refine tt_icmp_eq hV rfl g4 (by decide) (pt := 50) (by decide) (pf := 28) rfl (fun hc => ?_) (fun hc => ?_)
    · replace h := h.1 hc
      refine tt_iinc3 hV rfl rfl (pc' := 53) rfl ?_
      refine r_goto hV rfl (pc' := 4) (by decide) ?_
      exact h
    · replace h := h.2 hc
      refine r_aload_n hV rfl rfl (pc' := 29) rfl ?_
      refine r_iload_n hV rfl rfl (pc' := 30) rfl ?_
      obtain ⟨v30, m30, h, hr⟩ := h
      refine tt_cv1I hV rfl rfl rfl (Wd_obj (sSh hB hs)) (Nat.le_of_ble_eq_true rfl) (Nat.le_of_ble_eq_true rfl) rfl hr (pc' := 33) rfl ?_
      obtain ⟨g5, h⟩ := h
      refine tt_if_eq hV rfl g5 (pt := 50) (by decide) (pf := 36) rfl (fun hc => ?_) (fun hc => ?_)
      · replace h := h.1 hc
        refine tt_iinc3 hV rfl rfl (pc' := 53) rfl ?_
        refine r_goto hV rfl (pc' := 4) (by decide) ?_
        exact h
      · replace h := h.2 hc
        refine r_iload_n hV rfl rfl (pc' := 37) rfl ?_
        refine r_iload hV rfl rfl (pc' := 39) rfl ?_
        refine tt_iconst hV rfl (pc' := 40) rfl ?_
        refine tt_isub hV rfl (pc' := 41) rfl ?_
        refine r_aload_n hV rfl rfl (pc' := 42) rfl ?_
        refine r_aload_n hV rfl rfl (pc' := 43) rfl ?_
        refine r_iload_n hV rfl rfl (pc' := 44) rfl ?_
        obtain ⟨v44, m44, h, hr⟩ := h
        refine tt_cv2I hV rfl rfl rfl (Wd_obj (hB _ _ rfl)) (Nat.le_of_ble_eq_true rfl) (Nat.le_of_ble_eq_true rfl) rfl hr (pc' := 47) rfl ?_
        refine tt_imul hV rfl (pc' := 48) rfl ?_
        refine vtI (y := ((v17 - 1) * v44)) (by clear h; omega) ?_
        refine tt_iadd hV rfl (pc' := 49) rfl ?_
        refine tt_istore2 hV rfl rfl (pc' := 50) rfl ?_
        refine tt_iinc3 hV rfl rfl (pc' := 53) rfl ?_
        refine r_goto hV rfl (pc' := 4) (by decide) ?_
        exact h
theorem S_stepw {X : Cx} {d : Nat} {s : Nat} {m : Mm} {Q : Mm → Prop} (hB : Bsh X.2.2.1) (hs : sO s) (h : ∃ c : Nat, cO c ∧ (m 18 0 = (c : Int)) ∧ S_sumOf X d s m (fun v13 m13 => (-2147483648 ≤ v13 ∧ v13 < 2147483648) ∧ (-2147483648 ≤ (m (c + 1) 2) ∧ (m (c + 1) 2) < 2147483648) ∧ (v13 < m (c + 1) 2 → (-2147483648 ≤ (-m (c + 1) 2) ∧ (-m (c + 1) 2) < 2147483648) ∧ (-m (c + 1) 2 < v13 → S_step_51 X (d + 1) s (m (c + 1) 2) (up m13 18 2 v13) Q) ∧ (v13 ≤ -m (c + 1) 2 → S_shift X d s 0 (up m13 18 2 v13) (fun m48 => S_step_51 X (d + 1) s (m (c + 1) 2) m48 Q))) ∧ (m (c + 1) 2 ≤ v13 → S_shift X d s 1 (up m13 18 2 v13) (fun m30 => S_step_51 X (d + 1) s (m (c + 1) 2) m30 Q)))) : S_step X (d + 1) s m Q := by
  unfold S_step
  have hV : Clo (gP X.1 X.2.1) (d + 1) 81 3 false (Ru0 (gP X.1 X.2.1) (d + 1) 81 X.2.2.1 X.2.2.2 Q) := Ru0_clo (q := mI81) rfl
  refine r_aload_n hV rfl rfl (pc' := 1) rfl ?_
  obtain ⟨c, hc, h⟩ := h
  have hcs := csh_of hB hc
  obtain ⟨g1, h⟩ := h
  refine tt_getP hV (tg := 0) (ci := 7) (kf := 0) rfl rfl (by decide) (hB _ _ rfl) rfl (by decide) (b := c) g1 (pc' := 4) rfl ?_
  refine tt_getR hV (tg := 10) (ci := 0) (kf := 0) rfl rfl (by decide) hcs.1 rfl (by decide) (pc' := 7) rfl ?_
  refine tt_iconst hV rfl (pc' := 8) rfl ?_
  refine q_iald hV rfl hcs.2.1 (Nat.le_of_ble_eq_true rfl) rfl (by decide) (pc' := 9) rfl ?_
  refine tt_istore2 hV rfl rfl (pc' := 10) rfl ?_
  refine r_aload_n hV rfl rfl (pc' := 11) rfl ?_
  refine r_aload_n hV rfl rfl (pc' := 12) rfl ?_
  refine r_aload_n hV rfl rfl (pc' := 13) rfl ?_
  obtain ⟨v13, m13, h, hr⟩ := h
  refine tt_cv1I hV rfl rfl rfl (Wd_obj (hB _ _ rfl)) (Nat.le_of_ble_eq_true rfl) (Nat.le_of_ble_eq_true rfl) rfl hr (pc' := 16) rfl ?_
  refine tt_putI hV (tg := 0) (ci := 7) (kf := 2) rfl rfl (Or.inl rfl) (hB _ _ rfl) rfl (by decide) rfl (pc' := 19) rfl ?_
  refine r_aload_n hV rfl rfl (pc' := 20) rfl ?_
  refine tt_getI hV (tg := 0) (ci := 7) (kf := 2) rfl rfl (by decide) (hB _ _ rfl) rfl (by decide) (pc' := 23) rfl ?_
  refine vtI (y := v13) (up_same _ _ _ _) ?_
  refine r_iload_n hV rfl rfl (pc' := 24) rfl ?_
  obtain ⟨g2, h⟩ := h
  obtain ⟨g3, h⟩ := h
  refine tt_icmp_lt hV rfl g2 g3 (pt := 36) (by decide) (pf := 27) rfl (fun hc => ?_) (fun hc => ?_)
  · replace h := h.1 hc
    refine r_aload_n hV rfl rfl (pc' := 37) rfl ?_
    refine tt_getI hV (tg := 0) (ci := 7) (kf := 2) rfl rfl (by decide) (hB _ _ rfl) rfl (by decide) (pc' := 40) rfl ?_
    refine vtI (y := v13) (up_same _ _ _ _) ?_
    refine r_iload_n hV rfl rfl (pc' := 41) rfl ?_
    refine tt_ineg hV rfl (pc' := 42) rfl ?_
    refine vtI (y := -m (c + 1) 2) (by clear h; omega) ?_
    obtain ⟨g4, h⟩ := h
    refine tt_icmp_gt hV rfl g2 g4 (pt := 51) (by decide) (pf := 45) rfl (fun hc => ?_) (fun hc => ?_)
    · replace h := h.1 hc
      exact h
    · replace h := h.2 (Int.not_lt.mp hc)
      refine r_aload_n hV rfl rfl (pc' := 46) rfl ?_
      refine r_aload_n hV rfl rfl (pc' := 47) rfl ?_
      refine tt_iconst hV rfl (pc' := 48) rfl ?_
      obtain ⟨m48, h, hr⟩ := h
      refine tt_cv2U hV rfl rfl rfl (Wd_obj (hB _ _ rfl)) (Nat.le_of_ble_eq_true rfl) (Nat.le_of_ble_eq_true rfl) rfl hr (pc' := 51) rfl ?_
      exact h
  · replace h := h.2 (Int.not_lt.mp hc)
    refine r_aload_n hV rfl rfl (pc' := 28) rfl ?_
    refine r_aload_n hV rfl rfl (pc' := 29) rfl ?_
    refine tt_iconst hV rfl (pc' := 30) rfl ?_
    obtain ⟨m30, h, hr⟩ := h
    refine tt_cv2U hV rfl rfl rfl (Wd_obj (hB _ _ rfl)) (Nat.le_of_ble_eq_true rfl) (Nat.le_of_ble_eq_true rfl) rfl hr (pc' := 33) rfl ?_
    refine r_goto hV rfl (pc' := 51) (by decide) ?_
    exact h
theorem S_step_51w {X : Cx} {d : Nat} {s : Nat} {l2 : Int} {m : Mm} {Q : Mm → Prop} (hB : Bsh X.2.2.1) (hs : sO s) (h : ∃ c : Nat, cO c ∧ (m 18 0 = (c : Int)) ∧ K_bumpAt X d c (m s 7 + 1) (m s 8) (up (up m s 7 (m s 7 + 1)) 18 3 0) (fun v79 m79 => (-2147483648 ≤ v79 ∧ v79 < 2147483648) ∧ (v79 = -1 → Q (up m79 18 4 v79)) ∧ (v79 ≠ -1 → ((iA ((iSr (m79 s 5) v79)) 1) ≠ 0 → Q (up m79 18 4 v79)) ∧ ((iA ((iSr (m79 s 5) v79)) 1) = 0 → (m79 18 0 = (c : Int)) ∧ K_ofBump X d c v79 2 (up m79 18 4 v79) (fun v118 m118 => S_throwOff X d s v118 m118 (fun m121 => (m121 18 0 = (c : Int)) ∧ K_ofBump X d c (m121 18 4) 3 m121 (fun v135 m135 => S_shift X d s v135 m135 (fun m138 => Q m138)))))))) : S_step_51 X (d + 1) s l2 m Q := by
  unfold S_step_51
  have hV : Clo (gP X.1 X.2.1) (d + 1) 81 3 false (Ru0 (gP X.1 X.2.1) (d + 1) 81 X.2.2.1 X.2.2.2 Q) := Ru0_clo (q := mI81) rfl
  refine r_aload_n hV rfl rfl (pc' := 52) rfl ?_
  refine r_dup hV rfl rfl (pc' := 53) rfl ?_
  refine tt_getI hV (tg := 0) (ci := 8) (kf := 7) rfl rfl (by decide) (sSh hB hs) rfl (by decide) (pc' := 56) rfl ?_
  refine tt_iconst hV rfl (pc' := 57) rfl ?_
  refine tt_iadd hV rfl (pc' := 58) rfl ?_
  refine tt_putI hV (tg := 0) (ci := 8) (kf := 7) rfl rfl (Or.inl rfl) (sSh hB hs) rfl (by decide) rfl (pc' := 61) rfl ?_
  refine r_aload_n hV rfl rfl (pc' := 62) rfl ?_
  refine tt_iconst hV rfl (pc' := 63) rfl ?_
  refine tt_putI hV (tg := 0) (ci := 7) (kf := 3) rfl rfl (Or.inl rfl) (hB _ _ rfl) rfl (by decide) rfl (pc' := 66) rfl ?_
  refine r_aload_n hV rfl rfl (pc' := 67) rfl ?_
  refine r_aload_n hV rfl rfl (pc' := 68) rfl ?_
  obtain ⟨c, hc, h⟩ := h
  have hcs := csh_of hB hc
  obtain ⟨g5, h⟩ := h
  refine tt_getP hV (tg := 0) (ci := 7) (kf := 0) rfl rfl (by decide) (hB _ _ rfl) rfl (by decide) (b := c) (((up_ne (Or.inr (by decide))).trans (up_ne (Or.inl (by clear h; omega)))).trans g5) (pc' := 71) rfl ?_
  refine r_aload_n hV rfl rfl (pc' := 72) rfl ?_
  refine tt_getI hV (tg := 0) (ci := 8) (kf := 7) rfl rfl (by decide) (sSh hB hs) rfl (by decide) (pc' := 75) rfl ?_
  refine vtI (y := m s 7 + 1) ((up_ne (Or.inl (by clear h; omega))).trans (up_same _ _ _ _)) ?_
  refine r_aload_n hV rfl rfl (pc' := 76) rfl ?_
  refine tt_getI hV (tg := 0) (ci := 8) (kf := 8) rfl rfl (by decide) (sSh hB hs) rfl (by decide) (pc' := 79) rfl ?_
  refine vtI (y := m s 8) ((up_ne (Or.inl (by clear h; omega))).trans (up_ne (Or.inr (by decide)))) ?_
  obtain ⟨v79, m79, h, hr⟩ := h
  refine tt_cv2I hV rfl rfl rfl (Wd_obj hcs.1) (Nat.le_of_ble_eq_true rfl) (Nat.le_of_ble_eq_true rfl) rfl hr (pc' := 82) rfl ?_
  refine tt_putI hV (tg := 0) (ci := 7) (kf := 4) rfl rfl (Or.inl rfl) (hB _ _ rfl) rfl (by decide) rfl (pc' := 85) rfl ?_
  refine r_aload_n hV rfl rfl (pc' := 86) rfl ?_
  refine tt_getI hV (tg := 0) (ci := 7) (kf := 4) rfl rfl (by decide) (hB _ _ rfl) rfl (by decide) (pc' := 89) rfl ?_
  refine vtI (y := v79) (up_same _ _ _ _) ?_
  refine tt_iconst hV rfl (pc' := 90) rfl ?_
  obtain ⟨g6, h⟩ := h
  refine tt_icmp_eq hV rfl g6 (by decide) (pt := 141) (by decide) (pf := 93) rfl (fun hc => ?_) (fun hc => ?_)
  · replace h := h.1 hc
    exact ru0_ret (q := mI81) rfl rfl rfl h
  · replace h := h.2 hc
    refine r_aload_n hV rfl rfl (pc' := 94) rfl ?_
    refine tt_getI hV (tg := 0) (ci := 8) (kf := 5) rfl rfl (by decide) (sSh hB hs) rfl (by decide) (pc' := 97) rfl ?_
    refine vtI (y := m79 s 5) (up_ne (Or.inl (by clear h; omega))) ?_
    refine r_aload_n hV rfl rfl (pc' := 98) rfl ?_
    refine tt_getI hV (tg := 0) (ci := 7) (kf := 4) rfl rfl (by decide) (hB _ _ rfl) rfl (by decide) (pc' := 101) rfl ?_
    refine vtI (y := v79) (up_same _ _ _ _) ?_
    refine tt_ishr hV rfl (pc' := 102) rfl ?_
    refine tt_iconst hV rfl (pc' := 103) rfl ?_
    refine tt_iand hV rfl (pc' := 104) rfl ?_
    refine tt_if_ne hV rfl (i32R _) (pt := 141) (by decide) (pf := 107) rfl (fun hc => ?_) (fun hc => ?_)
    · replace h := h.1 hc
      exact ru0_ret (q := mI81) rfl rfl rfl h
    · replace h := h.2 (Decidable.not_not.mp hc)
      refine r_aload_n hV rfl rfl (pc' := 108) rfl ?_
      refine r_aload_n hV rfl rfl (pc' := 109) rfl ?_
      refine r_aload_n hV rfl rfl (pc' := 110) rfl ?_
      obtain ⟨g7, h⟩ := h
      refine tt_getP hV (tg := 0) (ci := 7) (kf := 0) rfl rfl (by decide) (hB _ _ rfl) rfl (by decide) (b := c) ((up_ne (Or.inr (by decide))).trans g7) (pc' := 113) rfl ?_
      refine r_aload_n hV rfl rfl (pc' := 114) rfl ?_
      refine tt_getI hV (tg := 0) (ci := 7) (kf := 4) rfl rfl (by decide) (hB _ _ rfl) rfl (by decide) (pc' := 117) rfl ?_
      refine vtI (y := v79) (up_same _ _ _ _) ?_
      refine tt_iconst hV rfl (pc' := 118) rfl ?_
      obtain ⟨v118, m118, h, hr⟩ := h
      refine tt_cv2I hV rfl rfl rfl (Wd_obj hcs.1) (Nat.le_of_ble_eq_true rfl) (Nat.le_of_ble_eq_true rfl) rfl hr (pc' := 121) rfl ?_
      obtain ⟨m121, h, hr⟩ := h
      refine tt_cv2U hV rfl rfl rfl (Wd_obj (hB _ _ rfl)) (Nat.le_of_ble_eq_true rfl) (Nat.le_of_ble_eq_true rfl) rfl hr (pc' := 124) rfl ?_
      refine r_aload_n hV rfl rfl (pc' := 125) rfl ?_
      refine r_aload_n hV rfl rfl (pc' := 126) rfl ?_
      refine r_aload_n hV rfl rfl (pc' := 127) rfl ?_
      obtain ⟨g8, h⟩ := h
      refine tt_getP hV (tg := 0) (ci := 7) (kf := 0) rfl rfl (by decide) (hB _ _ rfl) rfl (by decide) (b := c) g8 (pc' := 130) rfl ?_
      refine r_aload_n hV rfl rfl (pc' := 131) rfl ?_
      refine tt_getI hV (tg := 0) (ci := 7) (kf := 4) rfl rfl (by decide) (hB _ _ rfl) rfl (by decide) (pc' := 134) rfl ?_
      refine tt_iconst hV rfl (pc' := 135) rfl ?_
      obtain ⟨v135, m135, h, hr⟩ := h
      refine tt_cv2I hV rfl rfl rfl (Wd_obj hcs.1) (Nat.le_of_ble_eq_true rfl) (Nat.le_of_ble_eq_true rfl) rfl hr (pc' := 138) rfl ?_
      obtain ⟨m138, h, hr⟩ := h
      refine tt_cv2U hV rfl rfl rfl (Wd_obj (hB _ _ rfl)) (Nat.le_of_ble_eq_true rfl) (Nat.le_of_ble_eq_true rfl) rfl hr (pc' := 141) rfl ?_
      exact ru0_ret (q := mI81) rfl rfl rfl h
theorem S_shiftw {X : Cx} {d : Nat} {s : Nat} {x : Int} {m : Mm} {Q : Mm → Prop} (hB : Bsh X.2.2.1) (hs : sO s) (h : (-2147483648 ≤ x ∧ x < 2147483648) ∧ (x ≠ 0 → (-2147483648 ≤ (m s 8 + 1) ∧ (m s 8 + 1) < 2147483648) ∧ (m s 8 + 1 < 0 → Q m) ∧ (0 ≤ m s 8 + 1 → ∃ c : Nat, cO c ∧ (m 18 0 = (c : Int)) ∧ (-2147483648 ≤ (m (c + 1) 0) ∧ (m (c + 1) 0) < 2147483648) ∧ (m (c + 1) 0 ≤ m s 8 + 1 → Q m) ∧ (m s 8 + 1 < m (c + 1) 0 → Q (up m s 8 (m s 8 + 1))))) ∧ (x = 0 → (-2147483648 ≤ (m s 8 - 1) ∧ (m s 8 - 1) < 2147483648) ∧ (m s 8 - 1 < 0 → Q m) ∧ (0 ≤ m s 8 - 1 → ∃ c : Nat, cO c ∧ (m 18 0 = (c : Int)) ∧ (-2147483648 ≤ (m (c + 1) 0) ∧ (m (c + 1) 0) < 2147483648) ∧ (m (c + 1) 0 ≤ m s 8 - 1 → Q m) ∧ (m s 8 - 1 < m (c + 1) 0 → Q (up m s 8 (m s 8 - 1)))))) : S_shift X d s x m Q := by
  unfold S_shift
  have hV : Clo (gP X.1 X.2.1) d 82 4 false (Ru0 (gP X.1 X.2.1) d 82 X.2.2.1 X.2.2.2 Q) := Ru0_clo (q := mI82) rfl
  refine r_iload_n hV rfl rfl (pc' := 1) rfl ?_
  obtain ⟨g1, h⟩ := h
  refine tt_if_ne hV rfl g1 (pt := 13) (by decide) (pf := 4) rfl (fun hc => ?_) (fun hc => ?_)
  · replace h := h.1 hc
    refine r_aload_n hV rfl rfl (pc' := 14) rfl ?_
    refine tt_getI hV (tg := 0) (ci := 8) (kf := 8) rfl rfl (by decide) (sSh hB hs) rfl (by decide) (pc' := 17) rfl ?_
    refine tt_iconst hV rfl (pc' := 18) rfl ?_
    refine tt_iadd hV rfl (pc' := 19) rfl ?_
    refine tt_istore3 hV rfl rfl (pc' := 20) rfl ?_
    refine r_iload_n hV rfl rfl (pc' := 21) rfl ?_
    obtain ⟨g2, h⟩ := h
    refine tt_if_lt hV rfl g2 (pt := 42) (by decide) (pf := 24) rfl (fun hc => ?_) (fun hc => ?_)
    · replace h := h.1 hc
      exact ru0_ret (q := mI82) rfl rfl rfl h
    · replace h := h.2 (Int.not_lt.mp hc)
      refine r_iload_n hV rfl rfl (pc' := 25) rfl ?_
      refine r_aload_n hV rfl rfl (pc' := 26) rfl ?_
      obtain ⟨c, hc, h⟩ := h
      have hcs := csh_of hB hc
      obtain ⟨g3, h⟩ := h
      refine tt_getP hV (tg := 0) (ci := 7) (kf := 0) rfl rfl (by decide) (hB _ _ rfl) rfl (by decide) (b := c) g3 (pc' := 29) rfl ?_
      refine tt_getR hV (tg := 10) (ci := 0) (kf := 0) rfl rfl (by decide) hcs.1 rfl (by decide) (pc' := 32) rfl ?_
      refine tt_iconst hV rfl (pc' := 33) rfl ?_
      refine q_iald hV rfl hcs.2.1 (Nat.le_of_ble_eq_true rfl) rfl (by decide) (pc' := 34) rfl ?_
      obtain ⟨g4, h⟩ := h
      refine tt_icmp_ge hV rfl g2 g4 (pt := 42) (by decide) (pf := 37) rfl (fun hc => ?_) (fun hc => ?_)
      · replace h := h.1 hc
        exact ru0_ret (q := mI82) rfl rfl rfl h
      · replace h := h.2 (Int.not_le.mp hc)
        refine r_aload_n hV rfl rfl (pc' := 38) rfl ?_
        refine r_iload_n hV rfl rfl (pc' := 39) rfl ?_
        refine tt_putI hV (tg := 0) (ci := 8) (kf := 8) rfl rfl (Or.inl rfl) (sSh hB hs) rfl (by decide) rfl (pc' := 42) rfl ?_
        exact ru0_ret (q := mI82) rfl rfl rfl h
  · replace h := h.2 (Decidable.not_not.mp hc)
    refine r_aload_n hV rfl rfl (pc' := 5) rfl ?_
    refine tt_getI hV (tg := 0) (ci := 8) (kf := 8) rfl rfl (by decide) (sSh hB hs) rfl (by decide) (pc' := 8) rfl ?_
    refine tt_iconst hV rfl (pc' := 9) rfl ?_
    refine tt_isub hV rfl (pc' := 10) rfl ?_
    refine r_goto hV rfl (pc' := 19) (by decide) ?_
    refine tt_istore3 hV rfl rfl (pc' := 20) rfl ?_
    refine r_iload_n hV rfl rfl (pc' := 21) rfl ?_
    obtain ⟨g5, h⟩ := h
    refine tt_if_lt hV rfl g5 (pt := 42) (by decide) (pf := 24) rfl (fun hc => ?_) (fun hc => ?_)
    · replace h := h.1 hc
      exact ru0_ret (q := mI82) rfl rfl rfl h
    · replace h := h.2 (Int.not_lt.mp hc)
      refine r_iload_n hV rfl rfl (pc' := 25) rfl ?_
      refine r_aload_n hV rfl rfl (pc' := 26) rfl ?_
      obtain ⟨c, hc, h⟩ := h
      have hcs := csh_of hB hc
      obtain ⟨g6, h⟩ := h
      refine tt_getP hV (tg := 0) (ci := 7) (kf := 0) rfl rfl (by decide) (hB _ _ rfl) rfl (by decide) (b := c) g6 (pc' := 29) rfl ?_
      refine tt_getR hV (tg := 10) (ci := 0) (kf := 0) rfl rfl (by decide) hcs.1 rfl (by decide) (pc' := 32) rfl ?_
      refine tt_iconst hV rfl (pc' := 33) rfl ?_
      refine q_iald hV rfl hcs.2.1 (Nat.le_of_ble_eq_true rfl) rfl (by decide) (pc' := 34) rfl ?_
      obtain ⟨g7, h⟩ := h
      refine tt_icmp_ge hV rfl g5 g7 (pt := 42) (by decide) (pf := 37) rfl (fun hc => ?_) (fun hc => ?_)
      · replace h := h.1 hc
        exact ru0_ret (q := mI82) rfl rfl rfl h
      · replace h := h.2 (Int.not_le.mp hc)
        refine r_aload_n hV rfl rfl (pc' := 38) rfl ?_
        refine r_iload_n hV rfl rfl (pc' := 39) rfl ?_
        refine tt_putI hV (tg := 0) (ci := 8) (kf := 8) rfl rfl (Or.inl rfl) (sSh hB hs) rfl (by decide) rfl (pc' := 42) rfl ?_
        exact ru0_ret (q := mI82) rfl rfl rfl h
theorem S_throwOffw {X : Cx} {d : Nat} {s : Nat} {x : Int} {m : Mm} {Q : Mm → Prop} (hB : Bsh X.2.2.1) (hs : sO s) (h : S_throwOff_2 X (d + 1) s x 0 m Q) : S_throwOff X (d + 1) s x m Q := by
  unfold S_throwOff
  have hV : Clo (gP X.1 X.2.1) (d + 1) 83 4 false (Ru0 (gP X.1 X.2.1) (d + 1) 83 X.2.2.1 X.2.2.2 Q) := Ru0_clo (q := mI83) rfl
  refine tt_iconst hV rfl (pc' := 1) rfl ?_
  refine tt_istore3 hV rfl rfl (pc' := 2) rfl ?_
  exact h
theorem S_throwOff_2w {X : Cx} {d : Nat} {s : Nat} {x : Int} {l3 : Int} {m : Mm} {Q : Mm → Prop} (hB : Bsh X.2.2.1) (hs : sO s) (h : ∃ c : Nat, cO c ∧ (m 18 0 = (c : Int)) ∧ (-2147483648 ≤ l3 ∧ l3 < 2147483648) ∧ (-2147483648 ≤ (m c 4) ∧ (m c 4) < 2147483648) ∧ (m c 4 ≤ l3 → Q (up m s 4 ((iA (m s 4) ((iX (m 18 3) (-1))))))) ∧ (l3 < m c 4 → T_isAboard X d s l3 m (fun v15 m15 => (-2147483648 ≤ v15 ∧ v15 < 2147483648) ∧ (v15 = 0 → S_throwOff_2 X (d + 1) s x (l3 + 1) m15 Q) ∧ (v15 ≠ 0 → T_heelsOf X d s l3 m15 (fun v23 m23 => (-2147483648 ≤ v23 ∧ v23 < 2147483648) ∧ (-2147483648 ≤ x ∧ x < 2147483648) ∧ (x ≤ v23 → S_throwOff_2 X (d + 1) s x (l3 + 1) m23 Q) ∧ (v23 < x → S_throwOff_2 X (d + 1) s x (l3 + 1) (up m23 18 3 ((iO (m23 18 3) ((iSl 1 l3))))) Q)))))) : S_throwOff_2 X (d + 1) s x l3 m Q := by
  unfold S_throwOff_2
  have hV : Clo (gP X.1 X.2.1) (d + 1) 83 4 false (Ru0 (gP X.1 X.2.1) (d + 1) 83 X.2.2.1 X.2.2.2 Q) := Ru0_clo (q := mI83) rfl
  refine r_iload_n hV rfl rfl (pc' := 3) rfl ?_
  refine r_aload_n hV rfl rfl (pc' := 4) rfl ?_
  obtain ⟨c, hc, h⟩ := h
  have hcs := csh_of hB hc
  obtain ⟨g1, h⟩ := h
  refine tt_getP hV (tg := 0) (ci := 7) (kf := 0) rfl rfl (by decide) (hB _ _ rfl) rfl (by decide) (b := c) g1 (pc' := 7) rfl ?_
  refine tt_getI hV (tg := 0) (ci := 0) (kf := 4) rfl rfl (by decide) hcs.1 rfl (by decide) (pc' := 10) rfl ?_
  obtain ⟨g2, h⟩ := h
  obtain ⟨g3, h⟩ := h
  refine tt_icmp_ge hV rfl g2 g3 (pt := 48) (by decide) (pf := 13) rfl (fun hc => ?_) (fun hc => ?_)
  · replace h := h.1 hc
    refine r_aload_n hV rfl rfl (pc' := 49) rfl ?_
    refine r_dup hV rfl rfl (pc' := 50) rfl ?_
    refine tt_getI hV (tg := 0) (ci := 8) (kf := 4) rfl rfl (by decide) (sSh hB hs) rfl (by decide) (pc' := 53) rfl ?_
    refine r_aload_n hV rfl rfl (pc' := 54) rfl ?_
    refine tt_getI hV (tg := 0) (ci := 7) (kf := 3) rfl rfl (by decide) (hB _ _ rfl) rfl (by decide) (pc' := 57) rfl ?_
    refine tt_iconst hV rfl (pc' := 58) rfl ?_
    refine tt_ixor hV rfl (pc' := 59) rfl ?_
    refine tt_iand hV rfl (pc' := 60) rfl ?_
    refine tt_putI hV (tg := 0) (ci := 8) (kf := 4) rfl rfl (Or.inl rfl) (sSh hB hs) rfl (by decide) rfl (pc' := 63) rfl ?_
    exact ru0_ret (q := mI83) rfl rfl rfl h
  · replace h := h.2 (Int.not_le.mp hc)
    refine r_aload_n hV rfl rfl (pc' := 14) rfl ?_
    refine r_iload_n hV rfl rfl (pc' := 15) rfl ?_
    obtain ⟨v15, m15, h, hr⟩ := h
    refine tt_cv1I hV rfl rfl rfl (Wd_obj (sSh hB hs)) (Nat.le_of_ble_eq_true rfl) (Nat.le_of_ble_eq_true rfl) rfl hr (pc' := 18) rfl ?_
    obtain ⟨g4, h⟩ := h
    refine tt_if_eq hV rfl g4 (pt := 42) (by decide) (pf := 21) rfl (fun hc => ?_) (fun hc => ?_)
    · replace h := h.1 hc
      refine tt_iinc3 hV rfl rfl (pc' := 45) rfl ?_
      refine r_goto hV rfl (pc' := 2) (by decide) ?_
      exact h
    · replace h := h.2 hc
      refine r_aload_n hV rfl rfl (pc' := 22) rfl ?_
      refine r_iload_n hV rfl rfl (pc' := 23) rfl ?_
      obtain ⟨v23, m23, h, hr⟩ := h
      refine tt_cv1I hV rfl rfl rfl (Wd_obj (sSh hB hs)) (Nat.le_of_ble_eq_true rfl) (Nat.le_of_ble_eq_true rfl) rfl hr (pc' := 26) rfl ?_
      refine r_iload_n hV rfl rfl (pc' := 27) rfl ?_
      obtain ⟨g5, h⟩ := h
      obtain ⟨g6, h⟩ := h
      refine tt_icmp_ge hV rfl g5 g6 (pt := 42) (by decide) (pf := 30) rfl (fun hc => ?_) (fun hc => ?_)
      · replace h := h.1 hc
        refine tt_iinc3 hV rfl rfl (pc' := 45) rfl ?_
        refine r_goto hV rfl (pc' := 2) (by decide) ?_
        exact h
      · replace h := h.2 (Int.not_le.mp hc)
        refine r_aload_n hV rfl rfl (pc' := 31) rfl ?_
        refine r_dup hV rfl rfl (pc' := 32) rfl ?_
        refine tt_getI hV (tg := 0) (ci := 7) (kf := 3) rfl rfl (by decide) (hB _ _ rfl) rfl (by decide) (pc' := 35) rfl ?_
        refine tt_iconst hV rfl (pc' := 36) rfl ?_
        refine r_iload_n hV rfl rfl (pc' := 37) rfl ?_
        refine tt_ishl hV rfl (pc' := 38) rfl ?_
        refine tt_ior hV rfl (pc' := 39) rfl ?_
        refine tt_putI hV (tg := 0) (ci := 7) (kf := 3) rfl rfl (Or.inl rfl) (hB _ _ rfl) rfl (by decide) rfl (pc' := 42) rfl ?_
        refine tt_iinc3 hV rfl rfl (pc' := 45) rfl ?_
        refine r_goto hV rfl (pc' := 2) (by decide) ?_
        exact h
theorem S_sideAtEndw {X : Cx} {d : Nat} {s : Nat} {m : Mm} {Q : Int → Mm → Prop} (hB : Bsh X.2.2.1) (hs : sO s) (h : S_sideAtEnd_5 X (d + 1) s (m s 7) m Q) : S_sideAtEnd X (d + 1) s m Q := by
  unfold S_sideAtEnd
  have hV : Clo (gP X.1 X.2.1) (d + 1) 84 3 false (Rq (gP X.1 X.2.1) (d + 1) 84 X.2.2.1 X.2.2.2 Q) := Rq_clo (q := mI84) rfl
  refine r_aload_n hV rfl rfl (pc' := 1) rfl ?_
  refine tt_getI hV (tg := 0) (ci := 8) (kf := 7) rfl rfl (by decide) (sSh hB hs) rfl (by decide) (pc' := 4) rfl ?_
  refine tt_istore2 hV rfl rfl (pc' := 5) rfl ?_
  exact h
theorem S_sideAtEnd_5w {X : Cx} {d : Nat} {s : Nat} {l2 : Int} {m : Mm} {Q : Int → Mm → Prop} (hB : Bsh X.2.2.1) (hs : sO s) (h : ∃ c : Nat, cO c ∧ (m 18 0 = (c : Int)) ∧ K_lastRow X d c m (fun v10 m10 => (-2147483648 ≤ l2 ∧ l2 < 2147483648) ∧ (-2147483648 ≤ v10 ∧ v10 < 2147483648) ∧ (v10 ≤ l2 → (m10 18 0 = (c : Int)) ∧ (-2147483648 ≤ (m10 s 8) ∧ (m10 s 8) < 2147483648) ∧ ((iDv (m10 (c + 1) 0) 2) ≤ m10 s 8 → (m10 s 8 ≤ (iDv (m10 (c + 1) 0 - 1) 2) → Q 1 m10) ∧ ((iDv (m10 (c + 1) 0 - 1) 2) < m10 s 8 → Q 2 m10)) ∧ (m10 s 8 < (iDv (m10 (c + 1) 0) 2) → Q 0 m10)) ∧ (l2 < v10 → S_step X d s m10 (fun m18 => S_sideAtEnd_5 X (d + 1) s (l2 + 1) m18 Q)))) : S_sideAtEnd_5 X (d + 1) s l2 m Q := by
  unfold S_sideAtEnd_5
  have hV : Clo (gP X.1 X.2.1) (d + 1) 84 3 false (Rq (gP X.1 X.2.1) (d + 1) 84 X.2.2.1 X.2.2.2 Q) := Rq_clo (q := mI84) rfl
  refine r_iload_n hV rfl rfl (pc' := 6) rfl ?_
  refine r_aload_n hV rfl rfl (pc' := 7) rfl ?_
  obtain ⟨c, hc, h⟩ := h
  have hcs := csh_of hB hc
  obtain ⟨g1, h⟩ := h
  refine tt_getP hV (tg := 0) (ci := 7) (kf := 0) rfl rfl (by decide) (hB _ _ rfl) rfl (by decide) (b := c) g1 (pc' := 10) rfl ?_
  obtain ⟨v10, m10, h, hr⟩ := h
  refine tt_cv0I hV rfl rfl rfl (Wd_obj hcs.1) (Nat.le_of_ble_eq_true rfl) (Nat.le_of_ble_eq_true rfl) rfl hr (pc' := 13) rfl ?_
  obtain ⟨g2, h⟩ := h
  obtain ⟨g3, h⟩ := h
  refine tt_icmp_ge hV rfl g2 g3 (pt := 27) (by decide) (pf := 16) rfl (fun hc => ?_) (fun hc => ?_)
  · replace h := h.1 hc
    refine r_aload_n hV rfl rfl (pc' := 28) rfl ?_
    obtain ⟨g4, h⟩ := h
    refine tt_getP hV (tg := 0) (ci := 7) (kf := 0) rfl rfl (by decide) (hB _ _ rfl) rfl (by decide) (b := c) g4 (pc' := 31) rfl ?_
    refine tt_getR hV (tg := 10) (ci := 0) (kf := 0) rfl rfl (by decide) hcs.1 rfl (by decide) (pc' := 34) rfl ?_
    refine tt_iconst hV rfl (pc' := 35) rfl ?_
    refine q_iald hV rfl hcs.2.1 (Nat.le_of_ble_eq_true rfl) rfl (by decide) (pc' := 36) rfl ?_
    refine tt_istore2 hV rfl rfl (pc' := 37) rfl ?_
    refine r_aload_n hV rfl rfl (pc' := 38) rfl ?_
    refine tt_getI hV (tg := 0) (ci := 8) (kf := 8) rfl rfl (by decide) (sSh hB hs) rfl (by decide) (pc' := 41) rfl ?_
    refine r_iload_n hV rfl rfl (pc' := 42) rfl ?_
    refine tt_iconst hV rfl (pc' := 43) rfl ?_
    refine tt_idiv hV rfl (by decide) (pc' := 44) rfl ?_
    obtain ⟨g5, h⟩ := h
    refine tt_icmp_ge hV rfl g5 (i32R _) (pt := 49) (by decide) (pf := 47) rfl (fun hc => ?_) (fun hc => ?_)
    · replace h := h.1 hc
      refine r_aload_n hV rfl rfl (pc' := 50) rfl ?_
      refine tt_getI hV (tg := 0) (ci := 8) (kf := 8) rfl rfl (by decide) (sSh hB hs) rfl (by decide) (pc' := 53) rfl ?_
      refine r_iload_n hV rfl rfl (pc' := 54) rfl ?_
      refine tt_iconst hV rfl (pc' := 55) rfl ?_
      refine tt_isub hV rfl (pc' := 56) rfl ?_
      refine tt_iconst hV rfl (pc' := 57) rfl ?_
      refine tt_idiv hV rfl (by decide) (pc' := 58) rfl ?_
      refine tt_icmp_le hV rfl g5 (i32R _) (pt := 65) (by decide) (pf := 61) rfl (fun hc => ?_) (fun hc => ?_)
      · replace h := h.1 hc
        refine tt_iconst hV rfl (pc' := 66) rfl ?_
        exact rq_ret (q := mI84) rfl rfl rfl h
      · replace h := h.2 (Int.not_le.mp hc)
        refine tt_iconst hV rfl (pc' := 62) rfl ?_
        refine r_goto hV rfl (pc' := 66) (by decide) ?_
        exact rq_ret (q := mI84) rfl rfl rfl h
    · replace h := h.2 (Int.not_le.mp hc)
      refine tt_iconst hV rfl (pc' := 48) rfl ?_
      exact rq_ret (q := mI84) rfl rfl rfl h
  · replace h := h.2 (Int.not_le.mp hc)
    refine r_aload_n hV rfl rfl (pc' := 17) rfl ?_
    refine r_aload_n hV rfl rfl (pc' := 18) rfl ?_
    obtain ⟨m18, h, hr⟩ := h
    refine tt_cv1U hV rfl rfl rfl (Wd_obj (hB _ _ rfl)) (Nat.le_of_ble_eq_true rfl) (Nat.le_of_ble_eq_true rfl) rfl hr (pc' := 21) rfl ?_
    refine tt_iinc2 hV rfl rfl (pc' := 24) rfl ?_
    refine r_goto hV rfl (pc' := 5) (by decide) ?_
    exact h
theorem S_everyonew {X : Cx} {d : Nat} {m : Mm} {Q : Int → Mm → Prop} (hB : Bsh X.2.2.1) (h : ∃ c : Nat, cO c ∧ (m 18 0 = (c : Int)) ∧ Q ((iSl 1 (m c 4)) - 1) m) : S_everyone X d m Q := by
  unfold S_everyone
  have hV : Clo (gP X.1 X.2.1) d 85 1 false (Rq (gP X.1 X.2.1) d 85 X.2.2.1 X.2.2.2 Q) := Rq_clo (q := mI85) rfl
  refine tt_iconst hV rfl (pc' := 1) rfl ?_
  refine r_aload_n hV rfl rfl (pc' := 2) rfl ?_
  obtain ⟨c, hc, h⟩ := h
  have hcs := csh_of hB hc
  obtain ⟨g1, h⟩ := h
  refine tt_getP hV (tg := 0) (ci := 7) (kf := 0) rfl rfl (by decide) (hB _ _ rfl) rfl (by decide) (b := c) g1 (pc' := 5) rfl ?_
  refine tt_getI hV (tg := 0) (ci := 0) (kf := 4) rfl rfl (by decide) hcs.1 rfl (by decide) (pc' := 8) rfl ?_
  refine tt_ishl hV rfl (pc' := 9) rfl ?_
  refine tt_iconst hV rfl (pc' := 10) rfl ?_
  refine tt_isub hV rfl (pc' := 11) rfl ?_
  exact rq_ret (q := mI85) rfl rfl rfl h
theorem T_ofw {X : Cx} {d : Nat} {x : Int} {y : Int} {m : Mm} {Q : Int → Mm → Prop} (hB : Bsh X.2.2.1) (h : Q ((iA ((iSr x (4 * y))) 15)) m) : T_of X d x y m Q := by
  unfold T_of
  have hV : Clo (gP X.1 X.2.1) d 87 2 false (Rq (gP X.1 X.2.1) d 87 X.2.2.1 X.2.2.2 Q) := Rq_clo (q := mI87) rfl
  refine r_iload_n hV rfl rfl (pc' := 1) rfl ?_
  refine r_iload_n hV rfl rfl (pc' := 2) rfl ?_
  refine tt_iconst hV rfl (pc' := 3) rfl ?_
  refine tt_imul hV rfl (pc' := 4) rfl ?_
  refine vtI (y := 4 * y) (by clear h; omega) ?_
  refine tt_ishr hV rfl (pc' := 5) rfl ?_
  refine tt_bipush hV rfl (by decide) (pc' := 7) rfl ?_
  refine tt_iand hV rfl (pc' := 8) rfl ?_
  exact rq_ret (q := mI87) rfl rfl rfl h
theorem T_withw {X : Cx} {d : Nat} {x : Int} {y : Int} {z : Int} {m : Mm} {Q : Int → Mm → Prop} (hB : Bsh X.2.2.1) (h : Q ((iO ((iA x ((iX ((iSl 15 (4 * y))) (-1))))) ((iSl z (4 * y))))) m) : T_with X d x y z m Q := by
  unfold T_with
  have hV : Clo (gP X.1 X.2.1) d 88 4 false (Rq (gP X.1 X.2.1) d 88 X.2.2.1 X.2.2.2 Q) := Rq_clo (q := mI88) rfl
  refine r_iload_n hV rfl rfl (pc' := 1) rfl ?_
  refine tt_iconst hV rfl (pc' := 2) rfl ?_
  refine tt_imul hV rfl (pc' := 3) rfl ?_
  refine vtI (y := 4 * y) (by clear h; omega) ?_
  refine tt_istore3 hV rfl rfl (pc' := 4) rfl ?_
  refine r_iload_n hV rfl rfl (pc' := 5) rfl ?_
  refine tt_bipush hV rfl (by decide) (pc' := 7) rfl ?_
  refine r_iload_n hV rfl rfl (pc' := 8) rfl ?_
  refine tt_ishl hV rfl (pc' := 9) rfl ?_
  refine tt_iconst hV rfl (pc' := 10) rfl ?_
  refine tt_ixor hV rfl (pc' := 11) rfl ?_
  refine tt_iand hV rfl (pc' := 12) rfl ?_
  refine r_iload_n hV rfl rfl (pc' := 13) rfl ?_
  refine r_iload_n hV rfl rfl (pc' := 14) rfl ?_
  refine tt_ishl hV rfl (pc' := 15) rfl ?_
  refine tt_ior hV rfl (pc' := 16) rfl ?_
  exact rq_ret (q := mI88) rfl rfl rfl h
theorem T_weightOfw {X : Cx} {d : Nat} {s : Nat} {x : Int} {m : Mm} {Q : Int → Mm → Prop} (hB : Bsh X.2.2.1) (hs : sO s) (h : Q ((iA ((iSr (m s 0) (4 * x))) 15)) m) : T_weightOf X d s x m Q := by
  unfold T_weightOf
  have hV : Clo (gP X.1 X.2.1) d 89 2 false (Rq (gP X.1 X.2.1) d 89 X.2.2.1 X.2.2.2 Q) := Rq_clo (q := mI89) rfl
  refine r_aload_n hV rfl rfl (pc' := 1) rfl ?_
  refine tt_getI hV (tg := 0) (ci := 8) (kf := 0) rfl rfl (by decide) (sSh hB hs) rfl (by decide) (pc' := 4) rfl ?_
  refine r_iload_n hV rfl rfl (pc' := 5) rfl ?_
  refine tt_iconst hV rfl (pc' := 6) rfl ?_
  refine tt_imul hV rfl (pc' := 7) rfl ?_
  refine vtI (y := 4 * x) (by clear h; omega) ?_
  refine tt_ishr hV rfl (pc' := 8) rfl ?_
  refine tt_bipush hV rfl (by decide) (pc' := 10) rfl ?_
  refine tt_iand hV rfl (pc' := 11) rfl ?_
  exact rq_ret (q := mI89) rfl rfl rfl h
theorem T_leanOfw {X : Cx} {d : Nat} {s : Nat} {x : Int} {m : Mm} {Q : Int → Mm → Prop} (hB : Bsh X.2.2.1) (hs : sO s) (h : Q ((iA ((iSr (m s 1) (4 * x))) 15)) m) : T_leanOf X d s x m Q := by
  unfold T_leanOf
  have hV : Clo (gP X.1 X.2.1) d 90 2 false (Rq (gP X.1 X.2.1) d 90 X.2.2.1 X.2.2.2 Q) := Rq_clo (q := mI90) rfl
  refine r_aload_n hV rfl rfl (pc' := 1) rfl ?_
  refine tt_getI hV (tg := 0) (ci := 8) (kf := 1) rfl rfl (by decide) (sSh hB hs) rfl (by decide) (pc' := 4) rfl ?_
  refine r_iload_n hV rfl rfl (pc' := 5) rfl ?_
  refine tt_iconst hV rfl (pc' := 6) rfl ?_
  refine tt_imul hV rfl (pc' := 7) rfl ?_
  refine vtI (y := 4 * x) (by clear h; omega) ?_
  refine tt_ishr hV rfl (pc' := 8) rfl ?_
  refine tt_bipush hV rfl (by decide) (pc' := 10) rfl ?_
  refine tt_iand hV rfl (pc' := 11) rfl ?_
  exact rq_ret (q := mI90) rfl rfl rfl h
theorem T_heelsOfw {X : Cx} {d : Nat} {s : Nat} {x : Int} {m : Mm} {Q : Int → Mm → Prop} (hB : Bsh X.2.2.1) (hs : sO s) (h : Q ((iA ((iSr (m s 2) (4 * x))) 15)) m) : T_heelsOf X d s x m Q := by
  unfold T_heelsOf
  have hV : Clo (gP X.1 X.2.1) d 91 2 false (Rq (gP X.1 X.2.1) d 91 X.2.2.1 X.2.2.2 Q) := Rq_clo (q := mI91) rfl
  refine r_aload_n hV rfl rfl (pc' := 1) rfl ?_
  refine tt_getI hV (tg := 0) (ci := 8) (kf := 2) rfl rfl (by decide) (sSh hB hs) rfl (by decide) (pc' := 4) rfl ?_
  refine r_iload_n hV rfl rfl (pc' := 5) rfl ?_
  refine tt_iconst hV rfl (pc' := 6) rfl ?_
  refine tt_imul hV rfl (pc' := 7) rfl ?_
  refine vtI (y := 4 * x) (by clear h; omega) ?_
  refine tt_ishr hV rfl (pc' := 8) rfl ?_
  refine tt_bipush hV rfl (by decide) (pc' := 10) rfl ?_
  refine tt_iand hV rfl (pc' := 11) rfl ?_
  exact rq_ret (q := mI91) rfl rfl rfl h
theorem T_seatOfw {X : Cx} {d : Nat} {s : Nat} {x : Int} {m : Mm} {Q : Int → Mm → Prop} (hB : Bsh X.2.2.1) (hs : sO s) (h : Q ((iA ((iSr (m s 3) (4 * x))) 15)) m) : T_seatOf X d s x m Q := by
  unfold T_seatOf
  have hV : Clo (gP X.1 X.2.1) d 92 2 false (Rq (gP X.1 X.2.1) d 92 X.2.2.1 X.2.2.2 Q) := Rq_clo (q := mI92) rfl
  refine r_aload_n hV rfl rfl (pc' := 1) rfl ?_
  refine tt_getI hV (tg := 0) (ci := 8) (kf := 3) rfl rfl (by decide) (sSh hB hs) rfl (by decide) (pc' := 4) rfl ?_
  refine r_iload_n hV rfl rfl (pc' := 5) rfl ?_
  refine tt_iconst hV rfl (pc' := 6) rfl ?_
  refine tt_imul hV rfl (pc' := 7) rfl ?_
  refine vtI (y := 4 * x) (by clear h; omega) ?_
  refine tt_ishr hV rfl (pc' := 8) rfl ?_
  refine tt_bipush hV rfl (by decide) (pc' := 10) rfl ?_
  refine tt_iand hV rfl (pc' := 11) rfl ?_
  exact rq_ret (q := mI92) rfl rfl rfl h
theorem T_isAboardw {X : Cx} {d : Nat} {s : Nat} {x : Int} {m : Mm} {Q : Int → Mm → Prop} (hB : Bsh X.2.2.1) (hs : sO s) (h : ((iA ((iSr (m s 4) x)) 1) ≠ 1 → Q 0 m) ∧ ((iA ((iSr (m s 4) x)) 1) = 1 → Q 1 m)) : T_isAboard X d s x m Q := by
  unfold T_isAboard
  have hV : Clo (gP X.1 X.2.1) d 93 2 false (Rq (gP X.1 X.2.1) d 93 X.2.2.1 X.2.2.2 Q) := Rq_clo (q := mI93) rfl
  refine r_aload_n hV rfl rfl (pc' := 1) rfl ?_
  refine tt_getI hV (tg := 0) (ci := 8) (kf := 4) rfl rfl (by decide) (sSh hB hs) rfl (by decide) (pc' := 4) rfl ?_
  refine r_iload_n hV rfl rfl (pc' := 5) rfl ?_
  refine tt_ishr hV rfl (pc' := 6) rfl ?_
  refine tt_iconst hV rfl (pc' := 7) rfl ?_
  refine tt_iand hV rfl (pc' := 8) rfl ?_
  refine tt_iconst hV rfl (pc' := 9) rfl ?_
  refine tt_icmp_ne hV rfl (i32R _) (by decide) (pt := 16) (by decide) (pf := 12) rfl (fun hc => ?_) (fun hc => ?_)
  · replace h := h.1 hc
    refine tt_iconst hV rfl (pc' := 17) rfl ?_
    exact rq_ret (q := mI93) rfl rfl rfl h
  · replace h := h.2 (Decidable.not_not.mp hc)
    refine tt_iconst hV rfl (pc' := 13) rfl ?_
    refine r_goto hV rfl (pc' := 17) (by decide) ?_
    exact rq_ret (q := mI93) rfl rfl rfl h
theorem T_swapSeatsw {X : Cx} {d : Nat} {s : Nat} {x : Int} {y : Int} {m : Mm} {Q : Mm → Prop} (hB : Bsh X.2.2.1) (hs : sO s) (h : T_seatOf X d s x m (fun v2 m2 => T_seatOf X d s y m2 (fun v14 m14 => T_with X d (m2 s 3) x v14 m14 (fun v17 m17 => T_with X d v17 y v2 (up m17 s 3 v17) (fun v30 m30 => Q (up m30 s 3 v30)))))) : T_swapSeats X (d + 1) s x y m Q := by
  unfold T_swapSeats
  have hV : Clo (gP X.1 X.2.1) (d + 1) 94 4 false (Ru0 (gP X.1 X.2.1) (d + 1) 94 X.2.2.1 X.2.2.2 Q) := Ru0_clo (q := mI94) rfl
  refine r_aload_n hV rfl rfl (pc' := 1) rfl ?_
  refine r_iload_n hV rfl rfl (pc' := 2) rfl ?_
  obtain ⟨v2, m2, h, hr⟩ := h
  refine tt_cv1I hV rfl rfl rfl (Wd_obj (sSh hB hs)) (Nat.le_of_ble_eq_true rfl) (Nat.le_of_ble_eq_true rfl) rfl hr (pc' := 5) rfl ?_
  refine tt_istore3 hV rfl rfl (pc' := 6) rfl ?_
  refine r_aload_n hV rfl rfl (pc' := 7) rfl ?_
  refine r_aload_n hV rfl rfl (pc' := 8) rfl ?_
  refine tt_getI hV (tg := 0) (ci := 8) (kf := 3) rfl rfl (by decide) (sSh hB hs) rfl (by decide) (pc' := 11) rfl ?_
  refine r_iload_n hV rfl rfl (pc' := 12) rfl ?_
  refine r_aload_n hV rfl rfl (pc' := 13) rfl ?_
  refine r_iload_n hV rfl rfl (pc' := 14) rfl ?_
  obtain ⟨v14, m14, h, hr⟩ := h
  refine tt_cv1I hV rfl rfl rfl (Wd_obj (sSh hB hs)) (Nat.le_of_ble_eq_true rfl) (Nat.le_of_ble_eq_true rfl) rfl hr (pc' := 17) rfl ?_
  obtain ⟨v17, m17, h, hr⟩ := h
  refine tt_cs3I hV rfl rfl rfl (Nat.le_of_ble_eq_true rfl) (Nat.le_of_ble_eq_true rfl) rfl hr (pc' := 20) rfl ?_
  refine tt_putI hV (tg := 0) (ci := 8) (kf := 3) rfl rfl (Or.inl rfl) (sSh hB hs) rfl (by decide) rfl (pc' := 23) rfl ?_
  refine r_aload_n hV rfl rfl (pc' := 24) rfl ?_
  refine r_aload_n hV rfl rfl (pc' := 25) rfl ?_
  refine tt_getI hV (tg := 0) (ci := 8) (kf := 3) rfl rfl (by decide) (sSh hB hs) rfl (by decide) (pc' := 28) rfl ?_
  refine vtI (y := v17) (up_same _ _ _ _) ?_
  refine r_iload_n hV rfl rfl (pc' := 29) rfl ?_
  refine r_iload_n hV rfl rfl (pc' := 30) rfl ?_
  obtain ⟨v30, m30, h, hr⟩ := h
  refine tt_cs3I hV rfl rfl rfl (Nat.le_of_ble_eq_true rfl) (Nat.le_of_ble_eq_true rfl) rfl hr (pc' := 33) rfl ?_
  refine tt_putI hV (tg := 0) (ci := 8) (kf := 3) rfl rfl (Or.inl rfl) (sSh hB hs) rfl (by decide) rfl (pc' := 36) rfl ?_
  exact ru0_ret (q := mI94) rfl rfl rfl h
theorem T_beginw {X : Cx} {d : Nat} {s : Nat} {c : Nat} {m : Mm} {Q : Mm → Prop} (hB : Bsh X.2.2.1) (hc : cO c) (hs : sO s) (h : T_begin_2 X (d + 1) s c 0 m Q) : T_begin X (d + 1) s c m Q := by
  unfold T_begin
  have hcs := csh_of hB hc
  have hV : Clo (gP X.1 X.2.1) (d + 1) 95 3 false (Ru0 (gP X.1 X.2.1) (d + 1) 95 X.2.2.1 X.2.2.2 Q) := Ru0_clo (q := mI95) rfl
  refine tt_iconst hV rfl (pc' := 1) rfl ?_
  refine tt_istore2 hV rfl rfl (pc' := 2) rfl ?_
  exact h
theorem T_begin_2w {X : Cx} {d : Nat} {s : Nat} {c : Nat} {l2 : Int} {m : Mm} {Q : Mm → Prop} (hB : Bsh X.2.2.1) (hc : cO c) (hs : sO s) (h : (-2147483648 ≤ l2 ∧ l2 < 2147483648) ∧ (-2147483648 ≤ (m c 4) ∧ (m c 4) < 2147483648) ∧ (m c 4 ≤ l2 → T_walkBack X d s c (up (up (up m s 5 0) s 6 (m (c + 1) 4)) s 10 0) (fun m105 => Q (up m105 s 9 0))) ∧ (l2 < m c 4 → K_ofMember X d c l2 0 m (fun v19 m19 => T_with X d (m s 0) l2 v19 m19 (fun v22 m22 => K_ofMember X d c l2 1 (up m22 s 0 v22) (fun v37 m37 => T_with X d (m22 s 1) l2 v37 m37 (fun v40 m40 => K_ofMember X d c l2 2 (up m40 s 1 v40) (fun v55 m55 => T_with X d (m40 s 2) l2 v55 m55 (fun v58 m58 => T_with X d (m58 s 3) l2 l2 (up m58 s 2 v58) (fun v71 m71 => T_begin_2 X (d + 1) s c (l2 + 1) (up m71 s 3 v71) Q))))))))) : T_begin_2 X (d + 1) s c l2 m Q := by
  unfold T_begin_2
  have hcs := csh_of hB hc
  have hV : Clo (gP X.1 X.2.1) (d + 1) 95 3 false (Ru0 (gP X.1 X.2.1) (d + 1) 95 X.2.2.1 X.2.2.2 Q) := Ru0_clo (q := mI95) rfl
  refine r_iload_n hV rfl rfl (pc' := 3) rfl ?_
  refine r_aload_n hV rfl rfl (pc' := 4) rfl ?_
  refine tt_getI hV (tg := 0) (ci := 0) (kf := 4) rfl rfl (by decide) hcs.1 rfl (by decide) (pc' := 7) rfl ?_
  obtain ⟨g1, h⟩ := h
  obtain ⟨g2, h⟩ := h
  refine tt_icmp_ge hV rfl g1 g2 (pt := 83) (by decide) (pf := 10) rfl (fun hc => ?_) (fun hc => ?_)
  · replace h := h.1 hc
    refine r_aload_n hV rfl rfl (pc' := 84) rfl ?_
    refine tt_iconst hV rfl (pc' := 85) rfl ?_
    refine tt_putI hV (tg := 0) (ci := 8) (kf := 5) rfl rfl (Or.inl rfl) (sSh hB hs) rfl (by decide) rfl (pc' := 88) rfl ?_
    refine r_aload_n hV rfl rfl (pc' := 89) rfl ?_
    refine r_aload_n hV rfl rfl (pc' := 90) rfl ?_
    refine tt_getR hV (tg := 10) (ci := 0) (kf := 0) rfl rfl (by decide) hcs.1 rfl (by decide) (pc' := 93) rfl ?_
    refine tt_iconst hV rfl (pc' := 94) rfl ?_
    refine q_iald hV rfl hcs.2.1 (Nat.le_of_ble_eq_true rfl) rfl (by decide) (pc' := 95) rfl ?_
    refine vtI (y := m (c + 1) 4) (up_ne (Or.inl (by clear h; omega))) ?_
    refine tt_putI hV (tg := 0) (ci := 8) (kf := 6) rfl rfl (Or.inl rfl) (sSh hB hs) rfl (by decide) rfl (pc' := 98) rfl ?_
    refine r_aload_n hV rfl rfl (pc' := 99) rfl ?_
    refine tt_iconst hV rfl (pc' := 100) rfl ?_
    refine tt_putI hV (tg := 0) (ci := 8) (kf := 10) rfl rfl (Or.inl rfl) (sSh hB hs) rfl (by decide) rfl (pc' := 103) rfl ?_
    refine r_aload_n hV rfl rfl (pc' := 104) rfl ?_
    refine r_aload_n hV rfl rfl (pc' := 105) rfl ?_
    obtain ⟨m105, h, hr⟩ := h
    refine tt_cv1U hV rfl rfl rfl (Wd_obj (sSh hB hs)) (Nat.le_of_ble_eq_true rfl) (Nat.le_of_ble_eq_true rfl) rfl hr (pc' := 108) rfl ?_
    refine r_aload_n hV rfl rfl (pc' := 109) rfl ?_
    refine tt_iconst hV rfl (pc' := 110) rfl ?_
    refine tt_putI hV (tg := 0) (ci := 8) (kf := 9) rfl rfl (Or.inl rfl) (sSh hB hs) rfl (by decide) rfl (pc' := 113) rfl ?_
    exact ru0_ret (q := mI95) rfl rfl rfl h
  · replace h := h.2 (Int.not_le.mp hc)
    refine r_aload_n hV rfl rfl (pc' := 11) rfl ?_
    refine r_aload_n hV rfl rfl (pc' := 12) rfl ?_
    refine tt_getI hV (tg := 0) (ci := 8) (kf := 0) rfl rfl (by decide) (sSh hB hs) rfl (by decide) (pc' := 15) rfl ?_
    refine r_iload_n hV rfl rfl (pc' := 16) rfl ?_
    refine r_aload_n hV rfl rfl (pc' := 17) rfl ?_
    refine r_iload_n hV rfl rfl (pc' := 18) rfl ?_
    refine tt_iconst hV rfl (pc' := 19) rfl ?_
    obtain ⟨v19, m19, h, hr⟩ := h
    refine tt_cv2I hV rfl rfl rfl (Wd_obj hcs.1) (Nat.le_of_ble_eq_true rfl) (Nat.le_of_ble_eq_true rfl) rfl hr (pc' := 22) rfl ?_
    obtain ⟨v22, m22, h, hr⟩ := h
    refine tt_cs3I hV rfl rfl rfl (Nat.le_of_ble_eq_true rfl) (Nat.le_of_ble_eq_true rfl) rfl hr (pc' := 25) rfl ?_
    refine tt_putI hV (tg := 0) (ci := 8) (kf := 0) rfl rfl (Or.inl rfl) (sSh hB hs) rfl (by decide) rfl (pc' := 28) rfl ?_
    refine r_aload_n hV rfl rfl (pc' := 29) rfl ?_
    refine r_aload_n hV rfl rfl (pc' := 30) rfl ?_
    refine tt_getI hV (tg := 0) (ci := 8) (kf := 1) rfl rfl (by decide) (sSh hB hs) rfl (by decide) (pc' := 33) rfl ?_
    refine vtI (y := m22 s 1) (up_ne (Or.inr (by decide))) ?_
    refine r_iload_n hV rfl rfl (pc' := 34) rfl ?_
    refine r_aload_n hV rfl rfl (pc' := 35) rfl ?_
    refine r_iload_n hV rfl rfl (pc' := 36) rfl ?_
    refine tt_iconst hV rfl (pc' := 37) rfl ?_
    obtain ⟨v37, m37, h, hr⟩ := h
    refine tt_cv2I hV rfl rfl rfl (Wd_obj hcs.1) (Nat.le_of_ble_eq_true rfl) (Nat.le_of_ble_eq_true rfl) rfl hr (pc' := 40) rfl ?_
    obtain ⟨v40, m40, h, hr⟩ := h
    refine tt_cs3I hV rfl rfl rfl (Nat.le_of_ble_eq_true rfl) (Nat.le_of_ble_eq_true rfl) rfl hr (pc' := 43) rfl ?_
    refine tt_putI hV (tg := 0) (ci := 8) (kf := 1) rfl rfl (Or.inl rfl) (sSh hB hs) rfl (by decide) rfl (pc' := 46) rfl ?_
    refine r_aload_n hV rfl rfl (pc' := 47) rfl ?_
    refine r_aload_n hV rfl rfl (pc' := 48) rfl ?_
    refine tt_getI hV (tg := 0) (ci := 8) (kf := 2) rfl rfl (by decide) (sSh hB hs) rfl (by decide) (pc' := 51) rfl ?_
    refine vtI (y := m40 s 2) (up_ne (Or.inr (by decide))) ?_
    refine r_iload_n hV rfl rfl (pc' := 52) rfl ?_
    refine r_aload_n hV rfl rfl (pc' := 53) rfl ?_
    refine r_iload_n hV rfl rfl (pc' := 54) rfl ?_
    refine tt_iconst hV rfl (pc' := 55) rfl ?_
    obtain ⟨v55, m55, h, hr⟩ := h
    refine tt_cv2I hV rfl rfl rfl (Wd_obj hcs.1) (Nat.le_of_ble_eq_true rfl) (Nat.le_of_ble_eq_true rfl) rfl hr (pc' := 58) rfl ?_
    obtain ⟨v58, m58, h, hr⟩ := h
    refine tt_cs3I hV rfl rfl rfl (Nat.le_of_ble_eq_true rfl) (Nat.le_of_ble_eq_true rfl) rfl hr (pc' := 61) rfl ?_
    refine tt_putI hV (tg := 0) (ci := 8) (kf := 2) rfl rfl (Or.inl rfl) (sSh hB hs) rfl (by decide) rfl (pc' := 64) rfl ?_
    refine r_aload_n hV rfl rfl (pc' := 65) rfl ?_
    refine r_aload_n hV rfl rfl (pc' := 66) rfl ?_
    refine tt_getI hV (tg := 0) (ci := 8) (kf := 3) rfl rfl (by decide) (sSh hB hs) rfl (by decide) (pc' := 69) rfl ?_
    refine vtI (y := m58 s 3) (up_ne (Or.inr (by decide))) ?_
    refine r_iload_n hV rfl rfl (pc' := 70) rfl ?_
    refine r_iload_n hV rfl rfl (pc' := 71) rfl ?_
    obtain ⟨v71, m71, h, hr⟩ := h
    refine tt_cs3I hV rfl rfl rfl (Nat.le_of_ble_eq_true rfl) (Nat.le_of_ble_eq_true rfl) rfl hr (pc' := 74) rfl ?_
    refine tt_putI hV (tg := 0) (ci := 8) (kf := 3) rfl rfl (Or.inl rfl) (sSh hB hs) rfl (by decide) rfl (pc' := 77) rfl ?_
    refine tt_iinc2 hV rfl rfl (pc' := 80) rfl ?_
    refine r_goto hV rfl (pc' := 2) (by decide) ?_
    exact h
theorem T_walkBackw {X : Cx} {d : Nat} {s : Nat} {c : Nat} {m : Mm} {Q : Mm → Prop} (hB : Bsh X.2.2.1) (hc : cO c) (hs : sO s) (h : Q (up (up (up (up m s 7 0) s 8 (m (c + 1) 1)) s 4 ((iSl 1 (m c 4)) - 1)) s 9 (m s 9 + 1))) : T_walkBack X d s c m Q := by
  unfold T_walkBack
  have hcs := csh_of hB hc
  have hV : Clo (gP X.1 X.2.1) d 96 2 false (Ru0 (gP X.1 X.2.1) d 96 X.2.2.1 X.2.2.2 Q) := Ru0_clo (q := mI96) rfl
  refine r_aload_n hV rfl rfl (pc' := 1) rfl ?_
  refine tt_iconst hV rfl (pc' := 2) rfl ?_
  refine tt_putI hV (tg := 0) (ci := 8) (kf := 7) rfl rfl (Or.inl rfl) (sSh hB hs) rfl (by decide) rfl (pc' := 5) rfl ?_
  refine r_aload_n hV rfl rfl (pc' := 6) rfl ?_
  refine r_aload_n hV rfl rfl (pc' := 7) rfl ?_
  refine tt_getR hV (tg := 10) (ci := 0) (kf := 0) rfl rfl (by decide) hcs.1 rfl (by decide) (pc' := 10) rfl ?_
  refine tt_iconst hV rfl (pc' := 11) rfl ?_
  refine q_iald hV rfl hcs.2.1 (Nat.le_of_ble_eq_true rfl) rfl (by decide) (pc' := 12) rfl ?_
  refine vtI (y := m (c + 1) 1) (up_ne (Or.inl (by clear h; omega))) ?_
  refine tt_putI hV (tg := 0) (ci := 8) (kf := 8) rfl rfl (Or.inl rfl) (sSh hB hs) rfl (by decide) rfl (pc' := 15) rfl ?_
  refine r_aload_n hV rfl rfl (pc' := 16) rfl ?_
  refine tt_iconst hV rfl (pc' := 17) rfl ?_
  refine r_aload_n hV rfl rfl (pc' := 18) rfl ?_
  refine tt_getI hV (tg := 0) (ci := 0) (kf := 4) rfl rfl (by decide) hcs.1 rfl (by decide) (pc' := 21) rfl ?_
  refine vtI (y := m c 4) ((up_ne (Or.inl (by clear h; omega))).trans (up_ne (Or.inl (by clear h; omega)))) ?_
  refine tt_ishl hV rfl (pc' := 22) rfl ?_
  refine tt_iconst hV rfl (pc' := 23) rfl ?_
  refine tt_isub hV rfl (pc' := 24) rfl ?_
  refine tt_putI hV (tg := 0) (ci := 8) (kf := 4) rfl rfl (Or.inl rfl) (sSh hB hs) rfl (by decide) rfl (pc' := 27) rfl ?_
  refine r_aload_n hV rfl rfl (pc' := 28) rfl ?_
  refine r_dup hV rfl rfl (pc' := 29) rfl ?_
  refine tt_getI hV (tg := 0) (ci := 8) (kf := 9) rfl rfl (by decide) (sSh hB hs) rfl (by decide) (pc' := 32) rfl ?_
  refine vtI (y := m s 9) ((up_ne (Or.inr (by decide))).trans ((up_ne (Or.inr (by decide))).trans (up_ne (Or.inr (by decide))))) ?_
  refine tt_iconst hV rfl (pc' := 33) rfl ?_
  refine tt_iadd hV rfl (pc' := 34) rfl ?_
  refine tt_putI hV (tg := 0) (ci := 8) (kf := 9) rfl rfl (Or.inl rfl) (sSh hB hs) rfl (by decide) rfl (pc' := 37) rfl ?_
  exact ru0_ret (q := mI96) rfl rfl rfl h
theorem B_signsInw {X : Cx} {d : Nat} {x : Int} {m : Mm} {Q : Int → Mm → Prop} (hB : Bsh X.2.2.1) (h : B_signsIn_5 X d x 0 24 m Q) : B_signsIn X d x m Q := by
  unfold B_signsIn
  have hV : Clo (gP X.1 X.2.1) d 99 3 false (Rq (gP X.1 X.2.1) d 99 X.2.2.1 X.2.2.2 Q) := Rq_clo (q := mI99) rfl
  refine tt_iconst hV rfl (pc' := 1) rfl ?_
  refine tt_istore1 hV rfl rfl (pc' := 2) rfl ?_
  refine tt_bipush hV rfl (by decide) (pc' := 4) rfl ?_
  refine tt_istore2 hV rfl rfl (pc' := 5) rfl ?_
  exact h
theorem B_signsIn_5w {X : Cx} {d : Nat} {x : Int} {l1 : Int} {l2 : Int} {m : Mm} {Q : Int → Mm → Prop} (hB : Bsh X.2.2.1) (h : (-2147483648 ≤ l2 ∧ l2 < 2147483648) ∧ (l2 < 0 → Q l1 m) ∧ (0 ≤ l2 → ((iA ((iSr x l2)) 255) = 0 → B_signsIn_5 X d x l1 (l2 - 8) m Q) ∧ ((iA ((iSr x l2)) 255) ≠ 0 → B_signsIn_5 X d x (l1 + 1) (l2 - 8) m Q))) : B_signsIn_5 X d x l1 l2 m Q := by
  unfold B_signsIn_5
  have hV : Clo (gP X.1 X.2.1) d 99 3 false (Rq (gP X.1 X.2.1) d 99 X.2.2.1 X.2.2.2 Q) := Rq_clo (q := mI99) rfl
  refine r_iload_n hV rfl rfl (pc' := 6) rfl ?_
  obtain ⟨g1, h⟩ := h
  refine tt_if_lt hV rfl g1 (pt := 28) (by decide) (pf := 9) rfl (fun hc => ?_) (fun hc => ?_)
  · replace h := h.1 hc
    refine r_iload_n hV rfl rfl (pc' := 29) rfl ?_
    exact rq_ret (q := mI99) rfl rfl rfl h
  · replace h := h.2 (Int.not_lt.mp hc)
    refine r_iload_n hV rfl rfl (pc' := 10) rfl ?_
    refine r_iload_n hV rfl rfl (pc' := 11) rfl ?_
    refine tt_ishr hV rfl (pc' := 12) rfl ?_
    refine tt_sipush hV rfl (by decide) (pc' := 15) rfl ?_
    refine tt_iand hV rfl (pc' := 16) rfl ?_
    refine tt_if_eq hV rfl (i32R _) (pt := 22) (by decide) (pf := 19) rfl (fun hc => ?_) (fun hc => ?_)
    · replace h := h.1 hc
      refine tz_iinc2 hV rfl rfl (y := l2 - 8) (by clear h; omega) (pc' := 25) rfl ?_
      refine r_goto hV rfl (pc' := 5) (by decide) ?_
      exact h
    · replace h := h.2 hc
      refine tt_iinc1 hV rfl rfl (pc' := 22) rfl ?_
      refine tz_iinc2 hV rfl rfl (y := l2 - 8) (by clear h; omega) (pc' := 25) rfl ?_
      refine r_goto hV rfl (pc' := 5) (by decide) ?_
      exact h
theorem B_takew {X : Cx} {d : Nat} {x : Int} {m : Mm} {Q : Mm → Prop} (hB : Bsh X.2.2.1) (h : B_take_3 X d x 24 none m Q) : B_take X d x m Q := by
  unfold B_take
  have hV : Clo (gP X.1 X.2.1) d 100 4 false (Ru0 (gP X.1 X.2.1) d 100 X.2.2.1 X.2.2.2 Q) := Ru0_clo (q := mI100) rfl
  refine tt_bipush hV rfl (by decide) (pc' := 2) rfl ?_
  refine tt_istore2 hV rfl rfl (pc' := 3) rfl ?_
  exact h
theorem B_take_3w {X : Cx} {d : Nat} {x : Int} {l2 : Int} {o3 : Option Int} {m : Mm} {Q : Mm → Prop} (hB : Bsh X.2.2.1) (h : (-2147483648 ≤ l2 ∧ l2 < 2147483648) ∧ (l2 < 0 → Q m) ∧ (0 ≤ l2 → ((iA ((iSr x l2)) 255) = 0 → B_take_3 X d x (l2 - 8) (some ((iA ((iSr x l2)) 255))) m Q) ∧ ((iA ((iSr x l2)) 255) ≠ 0 → (-2147483648 ≤ (m 1 1) ∧ (m 1 1) < 2147483648) ∧ (240 ≤ m 1 1 → B_take_3 X d x (l2 - 8) (some ((iA ((iSr x l2)) 255))) m Q) ∧ (m 1 1 < 240 → (0 ≤ ((iA ((iSr x l2)) 255)) ∧ ((iA ((iSr x l2)) 255)) < 65536) ∧ (0 ≤ m 1 1 ∧ m 1 1 < 240) ∧ (0 ≤ (iA ((iSr x l2)) 255) ∧ (iA ((iSr x l2)) 255) < 65536) ∧ B_take_3 X d x (l2 - 8) (some ((iA ((iSr x l2)) 255))) (up (up m 2 (m 1 1) ((iA ((iSr x l2)) 255))) 1 1 (m 1 1 + 1)) Q)))) : B_take_3 X d x l2 o3 m Q := by
  unfold B_take_3
  have hV : Clo (gP X.1 X.2.1) d 100 4 false (Ru0 (gP X.1 X.2.1) d 100 X.2.2.1 X.2.2.2 Q) := Ru0_clo (q := mI100) rfl
  refine r_iload_n hV rfl rfl (pc' := 4) rfl ?_
  obtain ⟨g1, h⟩ := h
  refine tt_if_lt hV rfl g1 (pt := 56) (by decide) (pf := 7) rfl (fun hc => ?_) (fun hc => ?_)
  · replace h := h.1 hc
    exact ru0_ret (q := mI100) rfl rfl rfl h
  · replace h := h.2 (Int.not_lt.mp hc)
    refine r_iload_n hV rfl rfl (pc' := 8) rfl ?_
    refine r_iload_n hV rfl rfl (pc' := 9) rfl ?_
    refine tt_ishr hV rfl (pc' := 10) rfl ?_
    refine tt_sipush hV rfl (by decide) (pc' := 13) rfl ?_
    refine tt_iand hV rfl (pc' := 14) rfl ?_
    refine tt_istore3 hV rfl rfl (pc' := 15) rfl ?_
    refine r_iload_n hV rfl rfl (pc' := 16) rfl ?_
    refine tt_if_eq hV rfl (i32R _) (pt := 50) (by decide) (pf := 19) rfl (fun hc => ?_) (fun hc => ?_)
    · replace h := h.1 hc
      refine tz_iinc2 hV rfl rfl (y := l2 - 8) (by clear h; omega) (pc' := 53) rfl ?_
      refine r_goto hV rfl (pc' := 3) (by decide) ?_
      exact h
    · replace h := h.2 hc
      refine r_aload_n hV rfl rfl (pc' := 20) rfl ?_
      refine tt_getI hV (tg := 0) (ci := 9) (kf := 1) rfl rfl (by decide) (hB _ _ rfl) rfl (by decide) (pc' := 23) rfl ?_
      refine tt_sipush hV rfl (by decide) (pc' := 26) rfl ?_
      obtain ⟨g2, h⟩ := h
      refine tt_icmp_ge hV rfl g2 (by decide) (pt := 50) (by decide) (pf := 29) rfl (fun hc => ?_) (fun hc => ?_)
      · replace h := h.1 hc
        refine tz_iinc2 hV rfl rfl (y := l2 - 8) (by clear h; omega) (pc' := 53) rfl ?_
        refine r_goto hV rfl (pc' := 3) (by decide) ?_
        exact h
      · replace h := h.2 (Int.not_le.mp hc)
        refine r_aload_n hV rfl rfl (pc' := 30) rfl ?_
        refine tt_getR hV (tg := 6) (ci := 9) (kf := 0) rfl rfl (by decide) (hB _ _ rfl) rfl (by decide) (pc' := 33) rfl ?_
        refine r_aload_n hV rfl rfl (pc' := 34) rfl ?_
        refine tt_getI hV (tg := 0) (ci := 9) (kf := 1) rfl rfl (by decide) (hB _ _ rfl) rfl (by decide) (pc' := 37) rfl ?_
        refine r_iload_n hV rfl rfl (pc' := 38) rfl ?_
        obtain ⟨g3, h⟩ := h
        refine tt_i2c hV rfl g3 (pc' := 39) rfl ?_
        obtain ⟨g4, h⟩ := h
        obtain ⟨g5, h⟩ := h
        refine q_cast hV rfl (hB _ _ rfl) (Nat.le_of_ble_eq_true rfl) rfl g4 g5 (pc' := 40) rfl ?_
        refine r_aload_n hV rfl rfl (pc' := 41) rfl ?_
        refine r_dup hV rfl rfl (pc' := 42) rfl ?_
        refine tt_getI hV (tg := 0) (ci := 9) (kf := 1) rfl rfl (by decide) (hB _ _ rfl) rfl (by decide) (pc' := 45) rfl ?_
        refine vtI (y := m 1 1) (up_ne (Or.inl (by decide))) ?_
        refine tt_iconst hV rfl (pc' := 46) rfl ?_
        refine tt_iadd hV rfl (pc' := 47) rfl ?_
        refine tt_putI hV (tg := 0) (ci := 9) (kf := 1) rfl rfl (Or.inl rfl) (hB _ _ rfl) rfl (by decide) rfl (pc' := 50) rfl ?_
        refine tz_iinc2 hV rfl rfl (y := l2 - 8) (by clear h; omega) (pc' := 53) rfl ?_
        refine r_goto hV rfl (pc' := 3) (by decide) ?_
        exact h
theorem B_behindBlanksw {X : Cx} {d : Nat} {x : Int} {m : Mm} {Q : Int → Mm → Prop} (hB : Bsh X.2.2.1) (h : B_behindBlanks_4 X d x x x m Q) : B_behindBlanks X d x m Q := by
  unfold B_behindBlanks
  have hV : Clo (gP X.1 X.2.1) d 101 4 false (Rq (gP X.1 X.2.1) d 101 X.2.2.1 X.2.2.2 Q) := Rq_clo (q := mI101) rfl
  refine r_iload_n hV rfl rfl (pc' := 1) rfl ?_
  refine tt_istore2 hV rfl rfl (pc' := 2) rfl ?_
  refine r_iload_n hV rfl rfl (pc' := 3) rfl ?_
  refine tt_istore3 hV rfl rfl (pc' := 4) rfl ?_
  exact h
theorem B_behindBlanks_4w {X : Cx} {d : Nat} {x : Int} {l2 : Int} {l3 : Int} {m : Mm} {Q : Int → Mm → Prop} (hB : Bsh X.2.2.1) (h : (-2147483648 ≤ l3 ∧ l3 < 2147483648) ∧ (-2147483648 ≤ (m 1 1) ∧ (m 1 1) < 2147483648) ∧ (m 1 1 ≤ l3 → Q l2 m) ∧ (l3 < m 1 1 → (0 ≤ l3 ∧ l3 < 240) ∧ (-2147483648 ≤ (m 2 l3) ∧ (m 2 l3) < 2147483648) ∧ (m 2 l3 ≠ 32 → Q l2 m) ∧ (m 2 l3 = 32 → B_behindBlanks_4 X d x (l3 + 1) (l3 + 1) m Q))) : B_behindBlanks_4 X d x l2 l3 m Q := by
  unfold B_behindBlanks_4
  have hV : Clo (gP X.1 X.2.1) d 101 4 false (Rq (gP X.1 X.2.1) d 101 X.2.2.1 X.2.2.2 Q) := Rq_clo (q := mI101) rfl
  refine r_iload_n hV rfl rfl (pc' := 5) rfl ?_
  refine r_aload_n hV rfl rfl (pc' := 6) rfl ?_
  refine tt_getI hV (tg := 0) (ci := 9) (kf := 1) rfl rfl (by decide) (hB _ _ rfl) rfl (by decide) (pc' := 9) rfl ?_
  obtain ⟨g1, h⟩ := h
  obtain ⟨g2, h⟩ := h
  refine tt_icmp_ge hV rfl g1 g2 (pt := 33) (by decide) (pf := 12) rfl (fun hc => ?_) (fun hc => ?_)
  · replace h := h.1 hc
    refine r_iload_n hV rfl rfl (pc' := 34) rfl ?_
    exact rq_ret (q := mI101) rfl rfl rfl h
  · replace h := h.2 (Int.not_le.mp hc)
    refine r_aload_n hV rfl rfl (pc' := 13) rfl ?_
    refine tt_getR hV (tg := 6) (ci := 9) (kf := 0) rfl rfl (by decide) (hB _ _ rfl) rfl (by decide) (pc' := 16) rfl ?_
    refine r_iload_n hV rfl rfl (pc' := 17) rfl ?_
    obtain ⟨g3, h⟩ := h
    refine q_cald hV rfl (hB _ _ rfl) (Nat.le_of_ble_eq_true rfl) rfl g3 (pc' := 18) rfl ?_
    refine tt_bipush hV rfl (by decide) (pc' := 20) rfl ?_
    obtain ⟨g4, h⟩ := h
    refine tt_icmp_ne hV rfl g4 (by decide) (pt := 33) (by decide) (pf := 23) rfl (fun hc => ?_) (fun hc => ?_)
    · replace h := h.1 hc
      refine r_iload_n hV rfl rfl (pc' := 34) rfl ?_
      exact rq_ret (q := mI101) rfl rfl rfl h
    · replace h := h.2 (Decidable.not_not.mp hc)
      refine r_iload_n hV rfl rfl (pc' := 24) rfl ?_
      refine tt_iconst hV rfl (pc' := 25) rfl ?_
      refine tt_iadd hV rfl (pc' := 26) rfl ?_
      refine tt_istore2 hV rfl rfl (pc' := 27) rfl ?_
      refine tt_iinc3 hV rfl rfl (pc' := 30) rfl ?_
      refine r_goto hV rfl (pc' := 4) (by decide) ?_
      exact h
theorem B_signAtw {X : Cx} {d : Nat} {x : Int} {m : Mm} {Q : Int → Mm → Prop} (hB : Bsh X.2.2.1) (h : (-2147483648 ≤ x ∧ x < 2147483648) ∧ (x < 0 → Q 0 m) ∧ (0 ≤ x → (-2147483648 ≤ (m 1 1) ∧ (m 1 1) < 2147483648) ∧ (m 1 1 ≤ x → Q 0 m) ∧ (x < m 1 1 → (0 ≤ x ∧ x < 240) ∧ Q (m 2 x) m))) : B_signAt X d x m Q := by
  unfold B_signAt
  have hV : Clo (gP X.1 X.2.1) d 102 2 false (Rq (gP X.1 X.2.1) d 102 X.2.2.1 X.2.2.2 Q) := Rq_clo (q := mI102) rfl
  refine r_iload_n hV rfl rfl (pc' := 1) rfl ?_
  obtain ⟨g1, h⟩ := h
  refine tt_if_lt hV rfl g1 (pt := 21) (by decide) (pf := 4) rfl (fun hc => ?_) (fun hc => ?_)
  · replace h := h.1 hc
    refine tt_iconst hV rfl (pc' := 22) rfl ?_
    exact rq_ret (q := mI102) rfl rfl rfl h
  · replace h := h.2 (Int.not_lt.mp hc)
    refine r_iload_n hV rfl rfl (pc' := 5) rfl ?_
    refine r_aload_n hV rfl rfl (pc' := 6) rfl ?_
    refine tt_getI hV (tg := 0) (ci := 9) (kf := 1) rfl rfl (by decide) (hB _ _ rfl) rfl (by decide) (pc' := 9) rfl ?_
    obtain ⟨g2, h⟩ := h
    refine tt_icmp_ge hV rfl g1 g2 (pt := 21) (by decide) (pf := 12) rfl (fun hc => ?_) (fun hc => ?_)
    · replace h := h.1 hc
      refine tt_iconst hV rfl (pc' := 22) rfl ?_
      exact rq_ret (q := mI102) rfl rfl rfl h
    · replace h := h.2 (Int.not_le.mp hc)
      refine r_aload_n hV rfl rfl (pc' := 13) rfl ?_
      refine tt_getR hV (tg := 6) (ci := 9) (kf := 0) rfl rfl (by decide) (hB _ _ rfl) rfl (by decide) (pc' := 16) rfl ?_
      refine r_iload_n hV rfl rfl (pc' := 17) rfl ?_
      obtain ⟨g3, h⟩ := h
      refine q_cald hV rfl (hB _ _ rfl) (Nat.le_of_ble_eq_true rfl) rfl g3 (pc' := 18) rfl ?_
      refine r_goto hV rfl (pc' := 22) (by decide) ?_
      exact rq_ret (q := mI102) rfl rfl rfl h
theorem B_isDigitAtw {X : Cx} {d : Nat} {x : Int} {m : Mm} {Q : Int → Mm → Prop} (hB : Bsh X.2.2.1) (h : (-2147483648 ≤ x ∧ x < 2147483648) ∧ (x < 0 → Q 0 m) ∧ (0 ≤ x → (-2147483648 ≤ (m 1 1) ∧ (m 1 1) < 2147483648) ∧ (m 1 1 ≤ x → Q 0 m) ∧ (x < m 1 1 → (0 ≤ x ∧ x < 240) ∧ (-2147483648 ≤ (m 2 x) ∧ (m 2 x) < 2147483648) ∧ (m 2 x < 48 → Q 0 m) ∧ (48 ≤ m 2 x → (57 < m 2 x → Q 0 m) ∧ (m 2 x ≤ 57 → Q 1 m))))) : B_isDigitAt X d x m Q := by
  unfold B_isDigitAt
  have hV : Clo (gP X.1 X.2.1) d 103 2 false (Rq (gP X.1 X.2.1) d 103 X.2.2.1 X.2.2.2 Q) := Rq_clo (q := mI103) rfl
  refine r_iload_n hV rfl rfl (pc' := 1) rfl ?_
  obtain ⟨g1, h⟩ := h
  refine tt_if_lt hV rfl g1 (pt := 38) (by decide) (pf := 4) rfl (fun hc => ?_) (fun hc => ?_)
  · replace h := h.1 hc
    refine tt_iconst hV rfl (pc' := 39) rfl ?_
    exact rq_ret (q := mI103) rfl rfl rfl h
  · replace h := h.2 (Int.not_lt.mp hc)
    refine r_iload_n hV rfl rfl (pc' := 5) rfl ?_
    refine r_aload_n hV rfl rfl (pc' := 6) rfl ?_
    refine tt_getI hV (tg := 0) (ci := 9) (kf := 1) rfl rfl (by decide) (hB _ _ rfl) rfl (by decide) (pc' := 9) rfl ?_
    obtain ⟨g2, h⟩ := h
    refine tt_icmp_ge hV rfl g1 g2 (pt := 38) (by decide) (pf := 12) rfl (fun hc => ?_) (fun hc => ?_)
    · replace h := h.1 hc
      refine tt_iconst hV rfl (pc' := 39) rfl ?_
      exact rq_ret (q := mI103) rfl rfl rfl h
    · replace h := h.2 (Int.not_le.mp hc)
      refine r_aload_n hV rfl rfl (pc' := 13) rfl ?_
      refine tt_getR hV (tg := 6) (ci := 9) (kf := 0) rfl rfl (by decide) (hB _ _ rfl) rfl (by decide) (pc' := 16) rfl ?_
      refine r_iload_n hV rfl rfl (pc' := 17) rfl ?_
      obtain ⟨g3, h⟩ := h
      refine q_cald hV rfl (hB _ _ rfl) (Nat.le_of_ble_eq_true rfl) rfl g3 (pc' := 18) rfl ?_
      refine tt_bipush hV rfl (by decide) (pc' := 20) rfl ?_
      obtain ⟨g4, h⟩ := h
      refine tt_icmp_lt hV rfl g4 (by decide) (pt := 38) (by decide) (pf := 23) rfl (fun hc => ?_) (fun hc => ?_)
      · replace h := h.1 hc
        refine tt_iconst hV rfl (pc' := 39) rfl ?_
        exact rq_ret (q := mI103) rfl rfl rfl h
      · replace h := h.2 (Int.not_lt.mp hc)
        refine r_aload_n hV rfl rfl (pc' := 24) rfl ?_
        refine tt_getR hV (tg := 6) (ci := 9) (kf := 0) rfl rfl (by decide) (hB _ _ rfl) rfl (by decide) (pc' := 27) rfl ?_
        refine r_iload_n hV rfl rfl (pc' := 28) rfl ?_
        refine q_cald hV rfl (hB _ _ rfl) (Nat.le_of_ble_eq_true rfl) rfl g3 (pc' := 29) rfl ?_
        refine tt_bipush hV rfl (by decide) (pc' := 31) rfl ?_
        refine tt_icmp_gt hV rfl g4 (by decide) (pt := 38) (by decide) (pf := 34) rfl (fun hc => ?_) (fun hc => ?_)
        · replace h := h.1 hc
          refine tt_iconst hV rfl (pc' := 39) rfl ?_
          exact rq_ret (q := mI103) rfl rfl rfl h
        · replace h := h.2 (Int.not_lt.mp hc)
          refine tt_iconst hV rfl (pc' := 35) rfl ?_
          refine r_goto hV rfl (pc' := 39) (by decide) ?_
          exact rq_ret (q := mI103) rfl rfl rfl h
theorem U_tellw {X : Cx} {d : Nat} {x : Int} {y : Int} {z : Int} {m : Mm} {Q : Mm → Prop} (hB : Bsh X.2.2.1) (h : (-2147483648 ≤ (m 73 0) ∧ (m 73 0) < 2147483648) ∧ (10 ≤ m 73 0 → Q m) ∧ (m 73 0 < 10 → (0 ≤ m 73 0 ∧ m 73 0 < 10) ∧ (z = 0 ∨ z = 1) ∧ Q (up (up (up (up m 77 (m 73 0) x) 78 (m 73 0) y) 79 (m 73 0) z) 73 0 (m 73 0 + 1)))) : U_tell X d x y z m Q := by
  unfold U_tell
  have hV : Clo (gP X.1 X.2.1) d 105 4 false (Ru0 (gP X.1 X.2.1) d 105 X.2.2.1 X.2.2.2 Q) := Ru0_clo (q := mI105) rfl
  refine r_aload_n hV rfl rfl (pc' := 1) rfl ?_
  refine tt_getI hV (tg := 0) (ci := 10) (kf := 0) rfl rfl (by decide) (hB _ _ rfl) rfl (by decide) (pc' := 4) rfl ?_
  refine tt_bipush hV rfl (by decide) (pc' := 6) rfl ?_
  obtain ⟨g1, h⟩ := h
  refine tt_icmp_ge hV rfl g1 (by decide) (pt := 49) (by decide) (pf := 9) rfl (fun hc => ?_) (fun hc => ?_)
  · replace h := h.1 hc
    exact ru0_ret (q := mI105) rfl rfl rfl h
  · replace h := h.2 (Int.not_le.mp hc)
    refine r_aload_n hV rfl rfl (pc' := 10) rfl ?_
    refine tt_getR hV (tg := 6) (ci := 10) (kf := 4) rfl rfl (by decide) (hB _ _ rfl) rfl (by decide) (pc' := 13) rfl ?_
    refine r_aload_n hV rfl rfl (pc' := 14) rfl ?_
    refine tt_getI hV (tg := 0) (ci := 10) (kf := 0) rfl rfl (by decide) (hB _ _ rfl) rfl (by decide) (pc' := 17) rfl ?_
    refine r_iload_n hV rfl rfl (pc' := 18) rfl ?_
    obtain ⟨g2, h⟩ := h
    refine q_iast hV rfl (hB _ _ rfl) (Nat.le_of_ble_eq_true rfl) rfl g2 (pc' := 19) rfl ?_
    refine r_aload_n hV rfl rfl (pc' := 20) rfl ?_
    refine tt_getR hV (tg := 6) (ci := 10) (kf := 5) rfl rfl (by decide) (hB _ _ rfl) rfl (by decide) (pc' := 23) rfl ?_
    refine r_aload_n hV rfl rfl (pc' := 24) rfl ?_
    refine tt_getI hV (tg := 0) (ci := 10) (kf := 0) rfl rfl (by decide) (hB _ _ rfl) rfl (by decide) (pc' := 27) rfl ?_
    refine vtI (y := m 73 0) (up_ne (Or.inl (by decide))) ?_
    refine r_iload_n hV rfl rfl (pc' := 28) rfl ?_
    refine q_iast hV rfl (hB _ _ rfl) (Nat.le_of_ble_eq_true rfl) rfl g2 (pc' := 29) rfl ?_
    refine r_aload_n hV rfl rfl (pc' := 30) rfl ?_
    refine tt_getR hV (tg := 6) (ci := 10) (kf := 6) rfl rfl (by decide) (hB _ _ rfl) rfl (by decide) (pc' := 33) rfl ?_
    refine r_aload_n hV rfl rfl (pc' := 34) rfl ?_
    refine tt_getI hV (tg := 0) (ci := 10) (kf := 0) rfl rfl (by decide) (hB _ _ rfl) rfl (by decide) (pc' := 37) rfl ?_
    refine vtI (y := m 73 0) ((up_ne (Or.inl (by decide))).trans (up_ne (Or.inl (by decide)))) ?_
    refine r_iload_n hV rfl rfl (pc' := 38) rfl ?_
    obtain ⟨g3, h⟩ := h
    refine q_zast hV rfl (hB _ _ rfl) (Nat.le_of_ble_eq_true rfl) rfl g2 g3 (pc' := 39) rfl ?_
    refine r_aload_n hV rfl rfl (pc' := 40) rfl ?_
    refine r_dup hV rfl rfl (pc' := 41) rfl ?_
    refine tt_getI hV (tg := 0) (ci := 10) (kf := 0) rfl rfl (by decide) (hB _ _ rfl) rfl (by decide) (pc' := 44) rfl ?_
    refine vtI (y := m 73 0) ((up_ne (Or.inl (by decide))).trans ((up_ne (Or.inl (by decide))).trans (up_ne (Or.inl (by decide))))) ?_
    refine tt_iconst hV rfl (pc' := 45) rfl ?_
    refine tt_iadd hV rfl (pc' := 46) rfl ?_
    refine tt_putI hV (tg := 0) (ci := 10) (kf := 0) rfl rfl (Or.inl rfl) (hB _ _ rfl) rfl (by decide) rfl (pc' := 49) rfl ?_
    exact ru0_ret (q := mI105) rfl rfl rfl h
theorem U_listFittingw {X : Cx} {d : Nat} {x : Int} {m : Mm} {Q : Mm → Prop} (hB : Bsh X.2.2.1) (h : A_fill X d 81 0 (up m 74 1 0) (fun m13 => ∃ c : Nat, cO c ∧ (m13 18 0 = (c : Int)) ∧ U_listFitting_29 X (d + 1) x (m13 c 4) 0 none m13 Q)) : U_listFitting X (d + 1) x m Q := by
  unfold U_listFitting
  have hV : Clo (gP X.1 X.2.1) (d + 1) 106 5 false (Ru0 (gP X.1 X.2.1) (d + 1) 106 X.2.2.1 X.2.2.2 Q) := Ru0_clo (q := mI106) rfl
  refine r_aload_n hV rfl rfl (pc' := 1) rfl ?_
  refine tt_getR hV (tg := 6) (ci := 10) (kf := 1) rfl rfl (by decide) (hB _ _ rfl) rfl (by decide) (pc' := 4) rfl ?_
  refine tt_iconst hV rfl (pc' := 5) rfl ?_
  refine tt_putI hV (tg := 0) (ci := 2) (kf := 1) rfl rfl (Or.inl rfl) (hB _ _ rfl) rfl (by decide) rfl (pc' := 8) rfl ?_
  refine r_aload_n hV rfl rfl (pc' := 9) rfl ?_
  refine tt_getR hV (tg := 6) (ci := 10) (kf := 8) rfl rfl (by decide) (hB _ _ rfl) rfl (by decide) (pc' := 12) rfl ?_
  refine tt_iconst hV rfl (pc' := 13) rfl ?_
  obtain ⟨m13, h, hr⟩ := h
  refine tt_cs2U hV rfl rfl rfl (Nat.le_of_ble_eq_true rfl) (Nat.le_of_ble_eq_true rfl) rfl hr (pc' := 16) rfl ?_
  refine r_aload_n hV rfl rfl (pc' := 17) rfl ?_
  refine tt_getR hV (tg := 6) (ci := 10) (kf := 2) rfl rfl (by decide) (hB _ _ rfl) rfl (by decide) (pc' := 20) rfl ?_
  obtain ⟨c, hc, h⟩ := h
  have hcs := csh_of hB hc
  obtain ⟨g1, h⟩ := h
  refine tt_getP hV (tg := 0) (ci := 7) (kf := 0) rfl rfl (by decide) (hB _ _ rfl) rfl (by decide) (b := c) g1 (pc' := 23) rfl ?_
  refine tt_getI hV (tg := 0) (ci := 0) (kf := 4) rfl rfl (by decide) hcs.1 rfl (by decide) (pc' := 26) rfl ?_
  refine tt_istore2 hV rfl rfl (pc' := 27) rfl ?_
  refine tt_iconst hV rfl (pc' := 28) rfl ?_
  refine tt_istore3 hV rfl rfl (pc' := 29) rfl ?_
  exact h
theorem U_listFitting_29w {X : Cx} {d : Nat} {x : Int} {l2 : Int} {l3 : Int} {o4 : Option Int} {m : Mm} {Q : Mm → Prop} (hB : Bsh X.2.2.1) (h : (-2147483648 ≤ l3 ∧ l3 < 2147483648) ∧ (-2147483648 ≤ l2 ∧ l2 < 2147483648) ∧ (l2 < l3 → Q m) ∧ (l3 ≤ l2 → ∃ c : Nat, cO c ∧ (m 18 0 = (c : Int)) ∧ T_begin X d 76 c m (fun m45 => (l2 ≤ l3 → U_listFitting_90 X (d + 1) x l2 l3 o4 m45 Q) ∧ (l3 < l2 → T_weightOf X d 76 l3 m45 (fun v58 m58 => (-2147483648 ≤ (v58 + x) ∧ (v58 + x) < 2147483648) ∧ T_with X d (m58 76 0) l3 ((min (v58 + x) 9)) m58 (fun v84 m84 => U_listFitting_90 X (d + 1) x l2 l3 (some ((min (v58 + x) 9))) (up m84 76 0 v84) Q)))))) : U_listFitting_29 X (d + 1) x l2 l3 o4 m Q := by
  unfold U_listFitting_29
  have hV : Clo (gP X.1 X.2.1) (d + 1) 106 5 false (Ru0 (gP X.1 X.2.1) (d + 1) 106 X.2.2.1 X.2.2.2 Q) := Ru0_clo (q := mI106) rfl
  refine r_iload_n hV rfl rfl (pc' := 30) rfl ?_
  refine r_iload_n hV rfl rfl (pc' := 31) rfl ?_
  obtain ⟨g2, h⟩ := h
  obtain ⟨g3, h⟩ := h
  refine tt_icmp_gt hV rfl g2 g3 (pt := 129) (by decide) (pf := 34) rfl (fun hc => ?_) (fun hc => ?_)
  · replace h := h.1 hc
    exact ru0_ret (q := mI106) rfl rfl rfl h
  · replace h := h.2 (Int.not_lt.mp hc)
    refine r_aload_n hV rfl rfl (pc' := 35) rfl ?_
    refine tt_getR hV (tg := 6) (ci := 10) (kf := 3) rfl rfl (by decide) (hB _ _ rfl) rfl (by decide) (pc' := 38) rfl ?_
    refine r_aload_n hV rfl rfl (pc' := 39) rfl ?_
    refine tt_getR hV (tg := 6) (ci := 10) (kf := 2) rfl rfl (by decide) (hB _ _ rfl) rfl (by decide) (pc' := 42) rfl ?_
    obtain ⟨c, hc, h⟩ := h
    have hcs := csh_of hB hc
    obtain ⟨g4, h⟩ := h
    refine tt_getP hV (tg := 0) (ci := 7) (kf := 0) rfl rfl (by decide) (hB _ _ rfl) rfl (by decide) (b := c) g4 (pc' := 45) rfl ?_
    obtain ⟨m45, h, hr⟩ := h
    refine tt_cv1U hV rfl rfl rfl (Wd_obj (hB _ _ rfl)) (Nat.le_of_ble_eq_true rfl) (Nat.le_of_ble_eq_true rfl) rfl hr (pc' := 48) rfl ?_
    refine r_iload_n hV rfl rfl (pc' := 49) rfl ?_
    refine r_iload_n hV rfl rfl (pc' := 50) rfl ?_
    refine tt_icmp_ge hV rfl g2 g3 (pt := 90) (by decide) (pf := 53) rfl (fun hc => ?_) (fun hc => ?_)
    · replace h := h.1 hc
      exact h
    · replace h := h.2 (Int.not_le.mp hc)
      refine r_aload_n hV rfl rfl (pc' := 54) rfl ?_
      refine tt_getR hV (tg := 6) (ci := 10) (kf := 3) rfl rfl (by decide) (hB _ _ rfl) rfl (by decide) (pc' := 57) rfl ?_
      refine r_iload_n hV rfl rfl (pc' := 58) rfl ?_
      obtain ⟨v58, m58, h, hr⟩ := h
      refine tt_cv1I hV rfl rfl rfl (Wd_obj (hB _ _ rfl)) (Nat.le_of_ble_eq_true rfl) (Nat.le_of_ble_eq_true rfl) rfl hr (pc' := 61) rfl ?_
      refine r_iload_n hV rfl rfl (pc' := 62) rfl ?_
      refine tt_iadd hV rfl (pc' := 63) rfl ?_
      refine tt_bipush hV rfl (by decide) (pc' := 65) rfl ?_
      obtain ⟨g5, h⟩ := h
      refine tt_min hV rfl rfl rfl g5 (by decide) (Nat.le_of_ble_eq_true rfl) (pc' := 68) rfl ?_
      refine tt_istore4 hV rfl rfl (pc' := 70) rfl ?_
      refine r_aload_n hV rfl rfl (pc' := 71) rfl ?_
      refine tt_getR hV (tg := 6) (ci := 10) (kf := 3) rfl rfl (by decide) (hB _ _ rfl) rfl (by decide) (pc' := 74) rfl ?_
      refine r_aload_n hV rfl rfl (pc' := 75) rfl ?_
      refine tt_getR hV (tg := 6) (ci := 10) (kf := 3) rfl rfl (by decide) (hB _ _ rfl) rfl (by decide) (pc' := 78) rfl ?_
      refine tt_getI hV (tg := 0) (ci := 8) (kf := 0) rfl rfl (by decide) (hB _ _ rfl) rfl (by decide) (pc' := 81) rfl ?_
      refine r_iload_n hV rfl rfl (pc' := 82) rfl ?_
      refine r_iload hV rfl rfl (pc' := 84) rfl ?_
      obtain ⟨v84, m84, h, hr⟩ := h
      refine tt_cs3I hV rfl rfl rfl (Nat.le_of_ble_eq_true rfl) (Nat.le_of_ble_eq_true rfl) rfl hr (pc' := 87) rfl ?_
      refine tt_putI hV (tg := 0) (ci := 8) (kf := 0) rfl rfl (Or.inl rfl) (hB _ _ rfl) rfl (by decide) rfl (pc' := 90) rfl ?_
      exact h
theorem U_listFitting_90w {X : Cx} {d : Nat} {x : Int} {l2 : Int} {l3 : Int} {o4 : Option Int} {m : Mm} {Q : Mm → Prop} (hB : Bsh X.2.2.1) (h : U_goDown X d m (fun m91 => U_fits X d m91 (fun v95 m95 => (-2147483648 ≤ v95 ∧ v95 < 2147483648) ∧ (v95 = 0 → U_listFitting_29 X (d + 1) x l2 (l3 + 1) o4 m95 Q) ∧ (v95 ≠ 0 → (-2147483648 ≤ l3 ∧ l3 < 2147483648) ∧ (-2147483648 ≤ l2 ∧ l2 < 2147483648) ∧ (l2 ≤ l3 → F_add X d 74 9 m95 (fun m116 => U_countColumns X d m116 (fun m120 => U_listFitting_29 X (d + 1) x l2 (l3 + 1) o4 m120 Q))) ∧ (l3 < l2 → F_add X d 74 l3 m95 (fun m116 => U_countColumns X d m116 (fun m120 => U_listFitting_29 X (d + 1) x l2 (l3 + 1) o4 m120 Q))))))) : U_listFitting_90 X (d + 1) x l2 l3 o4 m Q := by
  unfold U_listFitting_90
  have hV : Clo (gP X.1 X.2.1) (d + 1) 106 5 false (Ru0 (gP X.1 X.2.1) (d + 1) 106 X.2.2.1 X.2.2.2 Q) := Ru0_clo (q := mI106) rfl
  refine r_aload_n hV rfl rfl (pc' := 91) rfl ?_
  obtain ⟨m91, h, hr⟩ := h
  refine tt_cv0U hV rfl rfl rfl (Wd_obj (hB _ _ rfl)) (Nat.le_of_ble_eq_true rfl) (Nat.le_of_ble_eq_true rfl) rfl hr (pc' := 94) rfl ?_
  refine r_aload_n hV rfl rfl (pc' := 95) rfl ?_
  obtain ⟨v95, m95, h, hr⟩ := h
  refine tt_cv0I hV rfl rfl rfl (Wd_obj (hB _ _ rfl)) (Nat.le_of_ble_eq_true rfl) (Nat.le_of_ble_eq_true rfl) rfl hr (pc' := 98) rfl ?_
  obtain ⟨g6, h⟩ := h
  refine tt_if_eq hV rfl g6 (pt := 123) (by decide) (pf := 101) rfl (fun hc => ?_) (fun hc => ?_)
  · replace h := h.1 hc
    refine tt_iinc3 hV rfl rfl (pc' := 126) rfl ?_
    refine r_goto hV rfl (pc' := 29) (by decide) ?_
    exact h
  · replace h := h.2 hc
    refine r_aload_n hV rfl rfl (pc' := 102) rfl ?_
    refine tt_getR hV (tg := 6) (ci := 10) (kf := 1) rfl rfl (by decide) (hB _ _ rfl) rfl (by decide) (pc' := 105) rfl ?_
    refine r_iload_n hV rfl rfl (pc' := 106) rfl ?_
    refine r_iload_n hV rfl rfl (pc' := 107) rfl ?_
    obtain ⟨g7, h⟩ := h
    obtain ⟨g8, h⟩ := h
    refine tt_icmp_ge hV rfl g7 g8 (pt := 114) (by decide) (pf := 110) rfl (fun hc => ?_) (fun hc => ?_)
    · replace h := h.1 hc
      refine tt_bipush hV rfl (by decide) (pc' := 116) rfl ?_
      obtain ⟨m116, h, hr⟩ := h
      refine tt_cv1U hV rfl rfl rfl (Wd_obj (hB _ _ rfl)) (Nat.le_of_ble_eq_true rfl) (Nat.le_of_ble_eq_true rfl) rfl hr (pc' := 119) rfl ?_
      refine r_aload_n hV rfl rfl (pc' := 120) rfl ?_
      obtain ⟨m120, h, hr⟩ := h
      refine tt_cv0U hV rfl rfl rfl (Wd_obj (hB _ _ rfl)) (Nat.le_of_ble_eq_true rfl) (Nat.le_of_ble_eq_true rfl) rfl hr (pc' := 123) rfl ?_
      refine tt_iinc3 hV rfl rfl (pc' := 126) rfl ?_
      refine r_goto hV rfl (pc' := 29) (by decide) ?_
      exact h
    · replace h := h.2 (Int.not_le.mp hc)
      refine r_iload_n hV rfl rfl (pc' := 111) rfl ?_
      refine r_goto hV rfl (pc' := 116) (by decide) ?_
      obtain ⟨m116, h, hr⟩ := h
      refine tt_cv1U hV rfl rfl rfl (Wd_obj (hB _ _ rfl)) (Nat.le_of_ble_eq_true rfl) (Nat.le_of_ble_eq_true rfl) rfl hr (pc' := 119) rfl ?_
      refine r_aload_n hV rfl rfl (pc' := 120) rfl ?_
      obtain ⟨m120, h, hr⟩ := h
      refine tt_cv0U hV rfl rfl rfl (Wd_obj (hB _ _ rfl)) (Nat.le_of_ble_eq_true rfl) (Nat.le_of_ble_eq_true rfl) rfl hr (pc' := 123) rfl ?_
      refine tt_iinc3 hV rfl rfl (pc' := 126) rfl ?_
      refine r_goto hV rfl (pc' := 29) (by decide) ?_
      exact h
theorem U_goDownw {X : Cx} {d : Nat} {m : Mm} {Q : Mm → Prop} (hB : Bsh X.2.2.1) (h : U_goDown_2 X (d + 1) 1 m Q) : U_goDown X (d + 1) m Q := by
  unfold U_goDown
  have hV : Clo (gP X.1 X.2.1) (d + 1) 107 2 false (Ru0 (gP X.1 X.2.1) (d + 1) 107 X.2.2.1 X.2.2.2 Q) := Ru0_clo (q := mI107) rfl
  refine tt_iconst hV rfl (pc' := 1) rfl ?_
  refine tt_istore1 hV rfl rfl (pc' := 2) rfl ?_
  exact h
theorem U_goDown_2w {X : Cx} {d : Nat} {l1 : Int} {m : Mm} {Q : Mm → Prop} (hB : Bsh X.2.2.1) (h : ∃ c : Nat, cO c ∧ (m 18 0 = (c : Int)) ∧ K_lastRow X d c m (fun v10 m10 => (-2147483648 ≤ l1 ∧ l1 < 2147483648) ∧ (-2147483648 ≤ v10 ∧ v10 < 2147483648) ∧ (v10 < l1 → Q m10) ∧ (l1 ≤ v10 → (21 ≤ l1 → Q m10) ∧ (l1 < 21 → S_step X d 76 m10 (fun m33 => (0 ≤ l1 ∧ l1 < 21) ∧ U_goDown_2 X (d + 1) (l1 + 1) (up m33 80 l1 (m33 76 8)) Q))))) : U_goDown_2 X (d + 1) l1 m Q := by
  unfold U_goDown_2
  have hV : Clo (gP X.1 X.2.1) (d + 1) 107 2 false (Ru0 (gP X.1 X.2.1) (d + 1) 107 X.2.2.1 X.2.2.2 Q) := Ru0_clo (q := mI107) rfl
  refine r_iload_n hV rfl rfl (pc' := 3) rfl ?_
  refine r_aload_n hV rfl rfl (pc' := 4) rfl ?_
  refine tt_getR hV (tg := 6) (ci := 10) (kf := 2) rfl rfl (by decide) (hB _ _ rfl) rfl (by decide) (pc' := 7) rfl ?_
  obtain ⟨c, hc, h⟩ := h
  have hcs := csh_of hB hc
  obtain ⟨g1, h⟩ := h
  refine tt_getP hV (tg := 0) (ci := 7) (kf := 0) rfl rfl (by decide) (hB _ _ rfl) rfl (by decide) (b := c) g1 (pc' := 10) rfl ?_
  obtain ⟨v10, m10, h, hr⟩ := h
  refine tt_cv0I hV rfl rfl rfl (Wd_obj hcs.1) (Nat.le_of_ble_eq_true rfl) (Nat.le_of_ble_eq_true rfl) rfl hr (pc' := 13) rfl ?_
  obtain ⟨g2, h⟩ := h
  obtain ⟨g3, h⟩ := h
  refine tt_icmp_gt hV rfl g2 g3 (pt := 55) (by decide) (pf := 16) rfl (fun hc => ?_) (fun hc => ?_)
  · replace h := h.1 hc
    exact ru0_ret (q := mI107) rfl rfl rfl h
  · replace h := h.2 (Int.not_lt.mp hc)
    refine r_iload_n hV rfl rfl (pc' := 17) rfl ?_
    refine r_aload_n hV rfl rfl (pc' := 18) rfl ?_
    refine tt_getR hV (tg := 6) (ci := 10) (kf := 7) rfl rfl (by decide) (hB _ _ rfl) rfl (by decide) (pc' := 21) rfl ?_
    refine q_alen hV rfl (hB _ _ rfl) (by decide) (z := 21) rfl (pc' := 22) rfl ?_
    refine tt_icmp_ge hV rfl g2 (by decide) (pt := 55) (by decide) (pf := 25) rfl (fun hc => ?_) (fun hc => ?_)
    · replace h := h.1 hc
      exact ru0_ret (q := mI107) rfl rfl rfl h
    · replace h := h.2 (Int.not_le.mp hc)
      refine r_aload_n hV rfl rfl (pc' := 26) rfl ?_
      refine tt_getR hV (tg := 6) (ci := 10) (kf := 2) rfl rfl (by decide) (hB _ _ rfl) rfl (by decide) (pc' := 29) rfl ?_
      refine r_aload_n hV rfl rfl (pc' := 30) rfl ?_
      refine tt_getR hV (tg := 6) (ci := 10) (kf := 3) rfl rfl (by decide) (hB _ _ rfl) rfl (by decide) (pc' := 33) rfl ?_
      obtain ⟨m33, h, hr⟩ := h
      refine tt_cv1U hV rfl rfl rfl (Wd_obj (hB _ _ rfl)) (Nat.le_of_ble_eq_true rfl) (Nat.le_of_ble_eq_true rfl) rfl hr (pc' := 36) rfl ?_
      refine r_aload_n hV rfl rfl (pc' := 37) rfl ?_
      refine tt_getR hV (tg := 6) (ci := 10) (kf := 7) rfl rfl (by decide) (hB _ _ rfl) rfl (by decide) (pc' := 40) rfl ?_
      refine r_iload_n hV rfl rfl (pc' := 41) rfl ?_
      refine r_aload_n hV rfl rfl (pc' := 42) rfl ?_
      refine tt_getR hV (tg := 6) (ci := 10) (kf := 3) rfl rfl (by decide) (hB _ _ rfl) rfl (by decide) (pc' := 45) rfl ?_
      refine tt_getI hV (tg := 0) (ci := 8) (kf := 8) rfl rfl (by decide) (hB _ _ rfl) rfl (by decide) (pc' := 48) rfl ?_
      obtain ⟨g4, h⟩ := h
      refine q_iast hV rfl (hB _ _ rfl) (Nat.le_of_ble_eq_true rfl) rfl g4 (pc' := 49) rfl ?_
      refine tt_iinc1 hV rfl rfl (pc' := 52) rfl ?_
      refine r_goto hV rfl (pc' := 2) (by decide) ?_
      exact h
theorem U_fitsw {X : Cx} {d : Nat} {m : Mm} {Q : Int → Mm → Prop} (hB : Bsh X.2.2.1) (h : U_fits_2 X (d + 1) 0 none m Q) : U_fits X (d + 1) m Q := by
  unfold U_fits
  have hV : Clo (gP X.1 X.2.1) (d + 1) 108 3 false (Rq (gP X.1 X.2.1) (d + 1) 108 X.2.2.1 X.2.2.2 Q) := Rq_clo (q := mI108) rfl
  refine tt_iconst hV rfl (pc' := 1) rfl ?_
  refine tt_istore1 hV rfl rfl (pc' := 2) rfl ?_
  exact h
theorem U_fits_2w {X : Cx} {d : Nat} {l1 : Int} {o2 : Option Int} {m : Mm} {Q : Int → Mm → Prop} (hB : Bsh X.2.2.1) (h : (-2147483648 ≤ l1 ∧ l1 < 2147483648) ∧ (-2147483648 ≤ (m 73 0) ∧ (m 73 0) < 2147483648) ∧ (m 73 0 ≤ l1 → Q 1 m) ∧ (l1 < m 73 0 → (0 ≤ l1 ∧ l1 < 10) ∧ ∃ c : Nat, cO c ∧ (m 18 0 = (c : Int)) ∧ K_lastRow X d c m (fun v23 m23 => (-2147483648 ≤ (m 77 l1) ∧ (m 77 l1) < 2147483648) ∧ (-2147483648 ≤ v23 ∧ v23 < 2147483648) ∧ (0 ≤ (min (m 77 l1) v23) ∧ (min (m 77 l1) v23) < 21) ∧ (-2147483648 ≤ (m23 80 ((min (m 77 l1) v23))) ∧ (m23 80 ((min (m 77 l1) v23))) < 2147483648) ∧ (-2147483648 ≤ (m23 78 l1) ∧ (m23 78 l1) < 2147483648) ∧ (m23 80 ((min (m 77 l1) v23)) ≠ m23 78 l1 → (-2147483648 ≤ (m23 79 l1) ∧ (m23 79 l1) < 2147483648) ∧ (0 = m23 79 l1 → U_fits_2 X (d + 1) (l1 + 1) (some ((min (m 77 l1) v23))) m23 Q) ∧ (0 ≠ m23 79 l1 → Q 0 m23)) ∧ (m23 80 ((min (m 77 l1) v23)) = m23 78 l1 → (-2147483648 ≤ (m23 79 l1) ∧ (m23 79 l1) < 2147483648) ∧ (1 = m23 79 l1 → U_fits_2 X (d + 1) (l1 + 1) (some ((min (m 77 l1) v23))) m23 Q) ∧ (1 ≠ m23 79 l1 → Q 0 m23))))) : U_fits_2 X (d + 1) l1 o2 m Q := by
  unfold U_fits_2
  have hV : Clo (gP X.1 X.2.1) (d + 1) 108 3 false (Rq (gP X.1 X.2.1) (d + 1) 108 X.2.2.1 X.2.2.2 Q) := Rq_clo (q := mI108) rfl
  refine r_iload_n hV rfl rfl (pc' := 3) rfl ?_
  refine r_aload_n hV rfl rfl (pc' := 4) rfl ?_
  refine tt_getI hV (tg := 0) (ci := 10) (kf := 0) rfl rfl (by decide) (hB _ _ rfl) rfl (by decide) (pc' := 7) rfl ?_
  obtain ⟨g1, h⟩ := h
  obtain ⟨g2, h⟩ := h
  refine tt_icmp_ge hV rfl g1 g2 (pt := 67) (by decide) (pf := 10) rfl (fun hc => ?_) (fun hc => ?_)
  · replace h := h.1 hc
    refine tt_iconst hV rfl (pc' := 68) rfl ?_
    exact rq_ret (q := mI108) rfl rfl rfl h
  · replace h := h.2 (Int.not_le.mp hc)
    refine r_aload_n hV rfl rfl (pc' := 11) rfl ?_
    refine tt_getR hV (tg := 6) (ci := 10) (kf := 4) rfl rfl (by decide) (hB _ _ rfl) rfl (by decide) (pc' := 14) rfl ?_
    refine r_iload_n hV rfl rfl (pc' := 15) rfl ?_
    obtain ⟨g3, h⟩ := h
    refine q_iald hV rfl (hB _ _ rfl) (Nat.le_of_ble_eq_true rfl) rfl g3 (pc' := 16) rfl ?_
    refine r_aload_n hV rfl rfl (pc' := 17) rfl ?_
    refine tt_getR hV (tg := 6) (ci := 10) (kf := 2) rfl rfl (by decide) (hB _ _ rfl) rfl (by decide) (pc' := 20) rfl ?_
    obtain ⟨c, hc, h⟩ := h
    have hcs := csh_of hB hc
    obtain ⟨g4, h⟩ := h
    refine tt_getP hV (tg := 0) (ci := 7) (kf := 0) rfl rfl (by decide) (hB _ _ rfl) rfl (by decide) (b := c) g4 (pc' := 23) rfl ?_
    obtain ⟨v23, m23, h, hr⟩ := h
    refine tt_cv0I hV rfl rfl rfl (Wd_obj hcs.1) (Nat.le_of_ble_eq_true rfl) (Nat.le_of_ble_eq_true rfl) rfl hr (pc' := 26) rfl ?_
    obtain ⟨g5, h⟩ := h
    obtain ⟨g6, h⟩ := h
    refine tt_min hV rfl rfl rfl g5 g6 (Nat.le_of_ble_eq_true rfl) (pc' := 29) rfl ?_
    refine tt_istore2 hV rfl rfl (pc' := 30) rfl ?_
    refine r_aload_n hV rfl rfl (pc' := 31) rfl ?_
    refine tt_getR hV (tg := 6) (ci := 10) (kf := 7) rfl rfl (by decide) (hB _ _ rfl) rfl (by decide) (pc' := 34) rfl ?_
    refine r_iload_n hV rfl rfl (pc' := 35) rfl ?_
    obtain ⟨g7, h⟩ := h
    refine q_iald hV rfl (hB _ _ rfl) (Nat.le_of_ble_eq_true rfl) rfl g7 (pc' := 36) rfl ?_
    refine r_aload_n hV rfl rfl (pc' := 37) rfl ?_
    refine tt_getR hV (tg := 6) (ci := 10) (kf := 5) rfl rfl (by decide) (hB _ _ rfl) rfl (by decide) (pc' := 40) rfl ?_
    refine r_iload_n hV rfl rfl (pc' := 41) rfl ?_
    refine q_iald hV rfl (hB _ _ rfl) (Nat.le_of_ble_eq_true rfl) rfl g3 (pc' := 42) rfl ?_
    obtain ⟨g8, h⟩ := h
    obtain ⟨g9, h⟩ := h
    refine tt_icmp_ne hV rfl g8 g9 (pt := 49) (by decide) (pf := 45) rfl (fun hc => ?_) (fun hc => ?_)
    · replace h := h.1 hc
      refine tt_iconst hV rfl (pc' := 50) rfl ?_
      refine r_aload_n hV rfl rfl (pc' := 51) rfl ?_
      refine tt_getR hV (tg := 6) (ci := 10) (kf := 6) rfl rfl (by decide) (hB _ _ rfl) rfl (by decide) (pc' := 54) rfl ?_
      refine r_iload_n hV rfl rfl (pc' := 55) rfl ?_
      refine q_zald hV rfl (hB _ _ rfl) (Nat.le_of_ble_eq_true rfl) rfl g3 (pc' := 56) rfl ?_
      obtain ⟨g10, h⟩ := h
      refine tt_icmp_eq hV rfl (by decide) g10 (pt := 61) (by decide) (pf := 59) rfl (fun hc => ?_) (fun hc => ?_)
      · replace h := h.1 hc
        refine tt_iinc1 hV rfl rfl (pc' := 64) rfl ?_
        refine r_goto hV rfl (pc' := 2) (by decide) ?_
        exact h
      · replace h := h.2 hc
        refine tt_iconst hV rfl (pc' := 60) rfl ?_
        exact rq_ret (q := mI108) rfl rfl rfl h
    · replace h := h.2 (Decidable.not_not.mp hc)
      refine tt_iconst hV rfl (pc' := 46) rfl ?_
      refine r_goto hV rfl (pc' := 50) (by decide) ?_
      refine r_aload_n hV rfl rfl (pc' := 51) rfl ?_
      refine tt_getR hV (tg := 6) (ci := 10) (kf := 6) rfl rfl (by decide) (hB _ _ rfl) rfl (by decide) (pc' := 54) rfl ?_
      refine r_iload_n hV rfl rfl (pc' := 55) rfl ?_
      refine q_zald hV rfl (hB _ _ rfl) (Nat.le_of_ble_eq_true rfl) rfl g3 (pc' := 56) rfl ?_
      obtain ⟨g11, h⟩ := h
      refine tt_icmp_eq hV rfl (by decide) g11 (pt := 61) (by decide) (pf := 59) rfl (fun hc => ?_) (fun hc => ?_)
      · replace h := h.1 hc
        refine tt_iinc1 hV rfl rfl (pc' := 64) rfl ?_
        refine r_goto hV rfl (pc' := 2) (by decide) ?_
        exact h
      · replace h := h.2 hc
        refine tt_iconst hV rfl (pc' := 60) rfl ?_
        exact rq_ret (q := mI108) rfl rfl rfl h
theorem U_countColumnsw {X : Cx} {d : Nat} {m : Mm} {Q : Mm → Prop} (hB : Bsh X.2.2.1) (h : U_countColumns_2 X (d + 1) 1 m Q) : U_countColumns X (d + 1) m Q := by
  unfold U_countColumns
  have hV : Clo (gP X.1 X.2.1) (d + 1) 109 2 false (Ru0 (gP X.1 X.2.1) (d + 1) 109 X.2.2.1 X.2.2.2 Q) := Ru0_clo (q := mI109) rfl
  refine tt_iconst hV rfl (pc' := 1) rfl ?_
  refine tt_istore1 hV rfl rfl (pc' := 2) rfl ?_
  exact h
theorem U_countColumns_2w {X : Cx} {d : Nat} {l1 : Int} {m : Mm} {Q : Mm → Prop} (hB : Bsh X.2.2.1) (h : ∃ c : Nat, cO c ∧ (m 18 0 = (c : Int)) ∧ K_lastRow X d c m (fun v10 m10 => (-2147483648 ≤ l1 ∧ l1 < 2147483648) ∧ (-2147483648 ≤ v10 ∧ v10 < 2147483648) ∧ (v10 < l1 → Q m10) ∧ (l1 ≤ v10 → (21 ≤ l1 → Q m10) ∧ (l1 < 21 → (0 ≤ l1 ∧ l1 < 21) ∧ (0 ≤ 9 * l1 + m10 80 l1 ∧ 9 * l1 + m10 80 l1 < 189) ∧ U_countColumns_2 X (d + 1) (l1 + 1) (up m10 81 (9 * l1 + m10 80 l1) (m10 81 (9 * l1 + m10 80 l1) + 1)) Q)))) : U_countColumns_2 X (d + 1) l1 m Q := by
  unfold U_countColumns_2
  have hV : Clo (gP X.1 X.2.1) (d + 1) 109 2 false (Ru0 (gP X.1 X.2.1) (d + 1) 109 X.2.2.1 X.2.2.2 Q) := Ru0_clo (q := mI109) rfl
  refine r_iload_n hV rfl rfl (pc' := 3) rfl ?_
  refine r_aload_n hV rfl rfl (pc' := 4) rfl ?_
  refine tt_getR hV (tg := 6) (ci := 10) (kf := 2) rfl rfl (by decide) (hB _ _ rfl) rfl (by decide) (pc' := 7) rfl ?_
  obtain ⟨c, hc, h⟩ := h
  have hcs := csh_of hB hc
  obtain ⟨g1, h⟩ := h
  refine tt_getP hV (tg := 0) (ci := 7) (kf := 0) rfl rfl (by decide) (hB _ _ rfl) rfl (by decide) (b := c) g1 (pc' := 10) rfl ?_
  obtain ⟨v10, m10, h, hr⟩ := h
  refine tt_cv0I hV rfl rfl rfl (Wd_obj hcs.1) (Nat.le_of_ble_eq_true rfl) (Nat.le_of_ble_eq_true rfl) rfl hr (pc' := 13) rfl ?_
  obtain ⟨g2, h⟩ := h
  obtain ⟨g3, h⟩ := h
  refine tt_icmp_gt hV rfl g2 g3 (pt := 51) (by decide) (pf := 16) rfl (fun hc => ?_) (fun hc => ?_)
  · replace h := h.1 hc
    exact ru0_ret (q := mI109) rfl rfl rfl h
  · replace h := h.2 (Int.not_lt.mp hc)
    refine r_iload_n hV rfl rfl (pc' := 17) rfl ?_
    refine r_aload_n hV rfl rfl (pc' := 18) rfl ?_
    refine tt_getR hV (tg := 6) (ci := 10) (kf := 7) rfl rfl (by decide) (hB _ _ rfl) rfl (by decide) (pc' := 21) rfl ?_
    refine q_alen hV rfl (hB _ _ rfl) (by decide) (z := 21) rfl (pc' := 22) rfl ?_
    refine tt_icmp_ge hV rfl g2 (by decide) (pt := 51) (by decide) (pf := 25) rfl (fun hc => ?_) (fun hc => ?_)
    · replace h := h.1 hc
      exact ru0_ret (q := mI109) rfl rfl rfl h
    · replace h := h.2 (Int.not_le.mp hc)
      refine r_aload_n hV rfl rfl (pc' := 26) rfl ?_
      refine tt_getR hV (tg := 6) (ci := 10) (kf := 8) rfl rfl (by decide) (hB _ _ rfl) rfl (by decide) (pc' := 29) rfl ?_
      refine r_iload_n hV rfl rfl (pc' := 30) rfl ?_
      refine tt_bipush hV rfl (by decide) (pc' := 32) rfl ?_
      refine tt_imul hV rfl (pc' := 33) rfl ?_
      refine vtI (y := 9 * l1) (by clear h; omega) ?_
      refine r_aload_n hV rfl rfl (pc' := 34) rfl ?_
      refine tt_getR hV (tg := 6) (ci := 10) (kf := 7) rfl rfl (by decide) (hB _ _ rfl) rfl (by decide) (pc' := 37) rfl ?_
      refine r_iload_n hV rfl rfl (pc' := 38) rfl ?_
      obtain ⟨g4, h⟩ := h
      refine q_iald hV rfl (hB _ _ rfl) (Nat.le_of_ble_eq_true rfl) rfl g4 (pc' := 39) rfl ?_
      refine tt_iadd hV rfl (pc' := 40) rfl ?_
      refine r_dup2 hV rfl rfl rfl (pc' := 41) rfl ?_
      obtain ⟨g5, h⟩ := h
      refine q_iald hV rfl (hB _ _ rfl) (Nat.le_of_ble_eq_true rfl) rfl g5 (pc' := 42) rfl ?_
      refine tt_iconst hV rfl (pc' := 43) rfl ?_
      refine tt_iadd hV rfl (pc' := 44) rfl ?_
      refine q_iast hV rfl (hB _ _ rfl) (Nat.le_of_ble_eq_true rfl) rfl g5 (pc' := 45) rfl ?_
      refine tt_iinc1 hV rfl rfl (pc' := 48) rfl ?_
      refine r_goto hV rfl (pc' := 2) (by decide) ?_
      exact h
theorem U_rowToLookAtw {X : Cx} {d : Nat} {m : Mm} {Q : Int → Mm → Prop} (hB : Bsh X.2.2.1) (h : U_rowToLookAt_14 X (d + 1) (-1) (m 74 1 + 1) 1 none none m Q) : U_rowToLookAt X (d + 1) m Q := by
  unfold U_rowToLookAt
  have hV : Clo (gP X.1 X.2.1) (d + 1) 110 6 false (Rq (gP X.1 X.2.1) (d + 1) 110 X.2.2.1 X.2.2.2 Q) := Rq_clo (q := mI110) rfl
  refine tt_iconst hV rfl (pc' := 1) rfl ?_
  refine tt_istore1 hV rfl rfl (pc' := 2) rfl ?_
  refine r_aload_n hV rfl rfl (pc' := 3) rfl ?_
  refine tt_getR hV (tg := 6) (ci := 10) (kf := 1) rfl rfl (by decide) (hB _ _ rfl) rfl (by decide) (pc' := 6) rfl ?_
  refine tt_getI hV (tg := 0) (ci := 2) (kf := 1) rfl rfl (by decide) (hB _ _ rfl) rfl (by decide) (pc' := 9) rfl ?_
  refine tt_iconst hV rfl (pc' := 10) rfl ?_
  refine tt_iadd hV rfl (pc' := 11) rfl ?_
  refine tt_istore2 hV rfl rfl (pc' := 12) rfl ?_
  refine tt_iconst hV rfl (pc' := 13) rfl ?_
  refine tt_istore3 hV rfl rfl (pc' := 14) rfl ?_
  exact h
theorem U_rowToLookAt_14w {X : Cx} {d : Nat} {l1 : Int} {l2 : Int} {l3 : Int} {o4 : Option Int} {o5 : Option Int} {m : Mm} {Q : Int → Mm → Prop} (hB : Bsh X.2.2.1) (h : ∃ c : Nat, cO c ∧ (m 18 0 = (c : Int)) ∧ K_lastRow X d c m (fun v22 m22 => (-2147483648 ≤ l3 ∧ l3 < 2147483648) ∧ (-2147483648 ≤ v22 ∧ v22 < 2147483648) ∧ (v22 < l3 → Q l1 m22) ∧ (l3 ≤ v22 → (-2147483648 ≤ (m22 74 1) ∧ (m22 74 1) < 2147483648) ∧ (m22 74 1 ≤ 0 → Q l1 m22) ∧ (0 < m22 74 1 → U_rowToLookAt_44 X (d + 1) l1 l2 l3 0 0 m22 Q)))) : U_rowToLookAt_14 X (d + 1) l1 l2 l3 o4 o5 m Q := by
  unfold U_rowToLookAt_14
  have hV : Clo (gP X.1 X.2.1) (d + 1) 110 6 false (Rq (gP X.1 X.2.1) (d + 1) 110 X.2.2.1 X.2.2.2 Q) := Rq_clo (q := mI110) rfl
  refine r_iload_n hV rfl rfl (pc' := 15) rfl ?_
  refine r_aload_n hV rfl rfl (pc' := 16) rfl ?_
  refine tt_getR hV (tg := 6) (ci := 10) (kf := 2) rfl rfl (by decide) (hB _ _ rfl) rfl (by decide) (pc' := 19) rfl ?_
  obtain ⟨c, hc, h⟩ := h
  have hcs := csh_of hB hc
  obtain ⟨g1, h⟩ := h
  refine tt_getP hV (tg := 0) (ci := 7) (kf := 0) rfl rfl (by decide) (hB _ _ rfl) rfl (by decide) (b := c) g1 (pc' := 22) rfl ?_
  obtain ⟨v22, m22, h, hr⟩ := h
  refine tt_cv0I hV rfl rfl rfl (Wd_obj hcs.1) (Nat.le_of_ble_eq_true rfl) (Nat.le_of_ble_eq_true rfl) rfl hr (pc' := 25) rfl ?_
  obtain ⟨g2, h⟩ := h
  obtain ⟨g3, h⟩ := h
  refine tt_icmp_gt hV rfl g2 g3 (pt := 93) (by decide) (pf := 28) rfl (fun hc => ?_) (fun hc => ?_)
  · replace h := h.1 hc
    refine r_iload_n hV rfl rfl (pc' := 94) rfl ?_
    exact rq_ret (q := mI110) rfl rfl rfl h
  · replace h := h.2 (Int.not_lt.mp hc)
    refine r_aload_n hV rfl rfl (pc' := 29) rfl ?_
    refine tt_getR hV (tg := 6) (ci := 10) (kf := 1) rfl rfl (by decide) (hB _ _ rfl) rfl (by decide) (pc' := 32) rfl ?_
    refine tt_getI hV (tg := 0) (ci := 2) (kf := 1) rfl rfl (by decide) (hB _ _ rfl) rfl (by decide) (pc' := 35) rfl ?_
    obtain ⟨g4, h⟩ := h
    refine tt_if_le hV rfl g4 (pt := 93) (by decide) (pf := 38) rfl (fun hc => ?_) (fun hc => ?_)
    · replace h := h.1 hc
      refine r_iload_n hV rfl rfl (pc' := 94) rfl ?_
      exact rq_ret (q := mI110) rfl rfl rfl h
    · replace h := h.2 (Int.not_le.mp hc)
      refine tt_iconst hV rfl (pc' := 39) rfl ?_
      refine tt_istore4 hV rfl rfl (pc' := 41) rfl ?_
      refine tt_iconst hV rfl (pc' := 42) rfl ?_
      refine tt_istore5 hV rfl rfl (pc' := 44) rfl ?_
      exact h
theorem U_rowToLookAt_44w {X : Cx} {d : Nat} {l1 : Int} {l2 : Int} {l3 : Int} {l4 : Int} {l5 : Int} {m : Mm} {Q : Int → Mm → Prop} (hB : Bsh X.2.2.1) (h : (-2147483648 ≤ l5 ∧ l5 < 2147483648) ∧ (9 ≤ l5 → (-2147483648 ≤ l4 ∧ l4 < 2147483648) ∧ (-2147483648 ≤ l2 ∧ l2 < 2147483648) ∧ (l2 ≤ l4 → U_rowToLookAt_14 X (d + 1) l1 l2 (l3 + 1) (some l4) (some l5) m Q) ∧ (l4 < l2 → U_rowToLookAt_14 X (d + 1) l3 l4 (l3 + 1) (some l4) (some l5) m Q)) ∧ (l5 < 9 → (0 ≤ 9 * l3 + l5 ∧ 9 * l3 + l5 < 189) ∧ (-2147483648 ≤ l4 ∧ l4 < 2147483648) ∧ (-2147483648 ≤ (m 81 (9 * l3 + l5)) ∧ (m 81 (9 * l3 + l5)) < 2147483648) ∧ U_rowToLookAt_44 X (d + 1) l1 l2 l3 ((max l4 (m 81 (9 * l3 + l5)))) (l5 + 1) m Q)) : U_rowToLookAt_44 X (d + 1) l1 l2 l3 l4 l5 m Q := by
  unfold U_rowToLookAt_44
  have hV : Clo (gP X.1 X.2.1) (d + 1) 110 6 false (Rq (gP X.1 X.2.1) (d + 1) 110 X.2.2.1 X.2.2.2 Q) := Rq_clo (q := mI110) rfl
  refine r_iload hV rfl rfl (pc' := 46) rfl ?_
  refine tt_bipush hV rfl (by decide) (pc' := 48) rfl ?_
  obtain ⟨g5, h⟩ := h
  refine tt_icmp_ge hV rfl g5 (by decide) (pt := 76) (by decide) (pf := 51) rfl (fun hc => ?_) (fun hc => ?_)
  · replace h := h.1 hc
    refine r_iload hV rfl rfl (pc' := 78) rfl ?_
    refine r_iload_n hV rfl rfl (pc' := 79) rfl ?_
    obtain ⟨g6, h⟩ := h
    obtain ⟨g7, h⟩ := h
    refine tt_icmp_ge hV rfl g6 g7 (pt := 87) (by decide) (pf := 82) rfl (fun hc => ?_) (fun hc => ?_)
    · replace h := h.1 hc
      refine tt_iinc3 hV rfl rfl (pc' := 90) rfl ?_
      refine r_goto hV rfl (pc' := 14) (by decide) ?_
      exact h
    · replace h := h.2 (Int.not_le.mp hc)
      refine r_iload hV rfl rfl (pc' := 84) rfl ?_
      refine tt_istore2 hV rfl rfl (pc' := 85) rfl ?_
      refine r_iload_n hV rfl rfl (pc' := 86) rfl ?_
      refine tt_istore1 hV rfl rfl (pc' := 87) rfl ?_
      refine tt_iinc3 hV rfl rfl (pc' := 90) rfl ?_
      refine r_goto hV rfl (pc' := 14) (by decide) ?_
      exact h
  · replace h := h.2 (Int.not_le.mp hc)
    refine r_iload hV rfl rfl (pc' := 53) rfl ?_
    refine r_aload_n hV rfl rfl (pc' := 54) rfl ?_
    refine tt_getR hV (tg := 6) (ci := 10) (kf := 8) rfl rfl (by decide) (hB _ _ rfl) rfl (by decide) (pc' := 57) rfl ?_
    refine r_iload_n hV rfl rfl (pc' := 58) rfl ?_
    refine tt_bipush hV rfl (by decide) (pc' := 60) rfl ?_
    refine tt_imul hV rfl (pc' := 61) rfl ?_
    refine vtI (y := 9 * l3) (by clear h; omega) ?_
    refine r_iload hV rfl rfl (pc' := 63) rfl ?_
    refine tt_iadd hV rfl (pc' := 64) rfl ?_
    obtain ⟨g8, h⟩ := h
    refine q_iald hV rfl (hB _ _ rfl) (Nat.le_of_ble_eq_true rfl) rfl g8 (pc' := 65) rfl ?_
    obtain ⟨g9, h⟩ := h
    obtain ⟨g10, h⟩ := h
    refine tt_max hV rfl rfl rfl g9 g10 (Nat.le_of_ble_eq_true rfl) (pc' := 68) rfl ?_
    refine tt_istore4 hV rfl rfl (pc' := 70) rfl ?_
    refine tt_iinc5 hV rfl rfl (pc' := 73) rfl ?_
    refine r_goto hV rfl (pc' := 44) (by decide) ?_
    exact h
