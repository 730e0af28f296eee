/-! ===== what is wanted at a place ===== -/
theorem P_comingSignw {X : Cx} {d : Nat} {m : Mm} {Q : Int → Mm → Prop} (hB : Bsh X.2.2.1) (h : B_behindBlanks X d (m 6 3) m (fun v9 m9 => B_signAt X d v9 (up m9 6 3 v9) (fun v23 m23 => Q v23 m23))) : P_comingSign X (d + 1) m Q := by
  unfold P_comingSign
  have hV : Clo (gP X.1 X.2.1) (d + 1) 40 1 false (Rq (gP X.1 X.2.1) (d + 1) 40 X.2.2.1 X.2.2.2 Q) := Rq_clo (q := mI40) rfl
  refine r_aload_n hV rfl rfl (pc' := 1) rfl ?_
  refine r_aload_n hV rfl rfl (pc' := 2) rfl ?_
  refine tt_getR hV (tg := 6) (ci := 5) (kf := 0) rfl rfl (by decide) (hB _ _ rfl) rfl (by decide) (pc' := 5) rfl ?_
  refine r_aload_n hV rfl rfl (pc' := 6) rfl ?_
  refine tt_getI hV (tg := 0) (ci := 5) (kf := 3) rfl rfl (by decide) (hB _ _ rfl) rfl (by decide) (pc' := 9) rfl ?_
  obtain ⟨v9, m9, h, hr⟩ := h
  refine tt_cv1I hV rfl rfl rfl (Wd_obj (hB _ _ rfl)) (Nat.le_of_ble_eq_true rfl) (Nat.le_of_ble_eq_true rfl) rfl hr (pc' := 12) rfl ?_
  refine tt_putI hV (tg := 0) (ci := 5) (kf := 3) rfl rfl (Or.inl rfl) (hB _ _ rfl) rfl (by decide) rfl (pc' := 15) rfl ?_
  refine r_aload_n hV rfl rfl (pc' := 16) rfl ?_
  refine tt_getR hV (tg := 6) (ci := 5) (kf := 0) rfl rfl (by decide) (hB _ _ rfl) rfl (by decide) (pc' := 19) rfl ?_
  refine r_aload_n hV rfl rfl (pc' := 20) rfl ?_
  refine tt_getI hV (tg := 0) (ci := 5) (kf := 3) rfl rfl (by decide) (hB _ _ rfl) rfl (by decide) (pc' := 23) rfl ?_
  refine vtI (y := v9) (up_same _ _ _ _) ?_
  obtain ⟨v23, m23, h, hr⟩ := h
  refine tt_cv1I hV rfl rfl rfl (Wd_obj (hB _ _ rfl)) (Nat.le_of_ble_eq_true rfl) (Nat.le_of_ble_eq_true rfl) rfl hr (pc' := 26) rfl ?_
  exact rq_ret (q := mI40) rfl rfl rfl h
theorem P_passesw {X : Cx} {d : Nat} {x : Int} {m : Mm} {Q : Int → Mm → Prop} (hB : Bsh X.2.2.1) (h : P_comingSign X d m (fun v1 m1 => (-2147483648 ≤ v1 ∧ v1 < 2147483648) ∧ (-2147483648 ≤ x ∧ x < 2147483648) ∧ (v1 = x → Q 1 (up m1 6 3 (m1 6 3 + 1))) ∧ (v1 ≠ x → Q 0 m1))) : P_passes X (d + 1) x m Q := by
  unfold P_passes
  have hV : Clo (gP X.1 X.2.1) (d + 1) 41 2 false (Rq (gP X.1 X.2.1) (d + 1) 41 X.2.2.1 X.2.2.2 Q) := Rq_clo (q := mI41) rfl
  refine r_aload_n hV rfl rfl (pc' := 1) rfl ?_
  obtain ⟨v1, m1, h, hr⟩ := h
  refine tt_cv0I hV rfl rfl rfl (Wd_obj (hB _ _ rfl)) (Nat.le_of_ble_eq_true rfl) (Nat.le_of_ble_eq_true rfl) rfl hr (pc' := 4) rfl ?_
  refine r_iload_n hV rfl rfl (pc' := 5) rfl ?_
  obtain ⟨g1, h⟩ := h
  obtain ⟨g2, h⟩ := h
  refine tt_icmp_eq hV rfl g1 g2 (pt := 10) (by decide) (pf := 8) rfl (fun hc => ?_) (fun hc => ?_)
  · replace h := h.1 hc
    refine r_aload_n hV rfl rfl (pc' := 11) rfl ?_
    refine r_dup hV rfl rfl (pc' := 12) rfl ?_
    refine tt_getI hV (tg := 0) (ci := 5) (kf := 3) rfl rfl (by decide) (hB _ _ rfl) rfl (by decide) (pc' := 15) rfl ?_
    refine tt_iconst hV rfl (pc' := 16) rfl ?_
    refine tt_iadd hV rfl (pc' := 17) rfl ?_
    refine tt_putI hV (tg := 0) (ci := 5) (kf := 3) rfl rfl (Or.inl rfl) (hB _ _ rfl) rfl (by decide) rfl (pc' := 20) rfl ?_
    refine tt_iconst hV rfl (pc' := 21) rfl ?_
    exact rq_ret (q := mI41) rfl rfl rfl h
  · replace h := h.2 hc
    refine tt_iconst hV rfl (pc' := 9) rfl ?_
    exact rq_ret (q := mI41) rfl rfl rfl h
theorem P_writew {X : Cx} {d : Nat} {x : Int} {y : Int} {m : Mm} {Q : Mm → Prop} (hB : Bsh X.2.2.1) (h : (-2147483648 ≤ (m 6 2) ∧ (m 6 2) < 2147483648) ∧ (241 ≤ m 6 2 → Q m) ∧ (m 6 2 < 241 → (0 ≤ m 6 2 ∧ m 6 2 < 241) ∧ Q (up (up m 7 (m 6 2) ((iO ((iSl x 14)) y))) 6 2 (m 6 2 + 1)))) : P_write X d x y m Q := by
  unfold P_write
  have hV : Clo (gP X.1 X.2.1) d 42 3 false (Ru0 (gP X.1 X.2.1) d 42 X.2.2.1 X.2.2.2 Q) := Ru0_clo (q := mI42) rfl
  refine r_aload_n hV rfl rfl (pc' := 1) rfl ?_
  refine tt_getI hV (tg := 0) (ci := 5) (kf := 2) rfl rfl (by decide) (hB _ _ rfl) rfl (by decide) (pc' := 4) rfl ?_
  refine r_aload_n hV rfl rfl (pc' := 5) rfl ?_
  refine tt_getR hV (tg := 6) (ci := 5) (kf := 1) rfl rfl (by decide) (hB _ _ rfl) rfl (by decide) (pc' := 8) rfl ?_
  refine q_alen hV rfl (hB _ _ rfl) (by decide) (z := 241) rfl (pc' := 9) rfl ?_
  obtain ⟨g1, h⟩ := h
  refine tt_icmp_ge hV rfl g1 (by decide) (pt := 37) (by decide) (pf := 12) rfl (fun hc => ?_) (fun hc => ?_)
  · replace h := h.1 hc
    exact ru0_ret (q := mI42) rfl rfl rfl h
  · replace h := h.2 (Int.not_le.mp hc)
    refine r_aload_n hV rfl rfl (pc' := 13) rfl ?_
    refine tt_getR hV (tg := 6) (ci := 5) (kf := 1) rfl rfl (by decide) (hB _ _ rfl) rfl (by decide) (pc' := 16) rfl ?_
    refine r_aload_n hV rfl rfl (pc' := 17) rfl ?_
    refine tt_getI hV (tg := 0) (ci := 5) (kf := 2) rfl rfl (by decide) (hB _ _ rfl) rfl (by decide) (pc' := 20) rfl ?_
    refine r_iload_n hV rfl rfl (pc' := 21) rfl ?_
    refine tt_bipush hV rfl (by decide) (pc' := 23) rfl ?_
    refine tt_ishl hV rfl (pc' := 24) rfl ?_
    refine r_iload_n hV rfl rfl (pc' := 25) rfl ?_
    refine tt_ior hV rfl (pc' := 26) rfl ?_
    obtain ⟨g2, h⟩ := h
    refine q_iast hV rfl (hB _ _ rfl) (Nat.le_of_ble_eq_true rfl) rfl g2 (pc' := 27) rfl ?_
    refine r_aload_n hV rfl rfl (pc' := 28) rfl ?_
    refine r_dup hV rfl rfl (pc' := 29) rfl ?_
    refine tt_getI hV (tg := 0) (ci := 5) (kf := 2) rfl rfl (by decide) (hB _ _ rfl) rfl (by decide) (pc' := 32) rfl ?_
    refine vtI (y := m 6 2) (up_ne (Or.inl (by decide))) ?_
    refine tt_iconst hV rfl (pc' := 33) rfl ?_
    refine tt_iadd hV rfl (pc' := 34) rfl ?_
    refine tt_putI hV (tg := 0) (ci := 5) (kf := 2) rfl rfl (Or.inl rfl) (hB _ _ rfl) rfl (by decide) rfl (pc' := 37) rfl ?_
    exact ru0_ret (q := mI42) rfl rfl rfl h
theorem P_readClausew {X : Cx} {d : Nat} {m : Mm} {Q : Int → Mm → Prop} (hB : Bsh X.2.2.1) (h : P_passes X d 121 m (fun v3 m3 => (-2147483648 ≤ v3 ∧ v3 < 2147483648) ∧ (v3 = 0 → Q 0 m3) ∧ (v3 ≠ 0 → P_passes X d 58 m3 (fun v12 m12 => (-2147483648 ≤ v12 ∧ v12 < 2147483648) ∧ (v12 ≠ 0 → P_comingSign X d m12 (fun v21 m21 => (-2147483648 ≤ v21 ∧ v21 < 2147483648) ∧ (v21 = 33 → P_readClause_41 X (d + 1) v21 m21 Q) ∧ (v21 ≠ 33 → (v21 = 40 → P_readClause_41 X (d + 1) v21 m21 Q) ∧ (v21 ≠ 40 → P_readSum X d 0 m21 (fun v49 m49 => (-2147483648 ≤ v49 ∧ v49 < 2147483648) ∧ (v49 ≠ 0 → P_readClause_57 X (d + 1) v21 1 m49 Q) ∧ (v49 = 0 → Q 0 m49)))))) ∧ (v12 = 0 → Q 0 m12))))) : P_readClause X (d + 1) m Q := by
  unfold P_readClause
  have hV : Clo (gP X.1 X.2.1) (d + 1) 43 4 false (Rq (gP X.1 X.2.1) (d + 1) 43 X.2.2.1 X.2.2.2 Q) := Rq_clo (q := mI43) rfl
  refine r_aload_n hV rfl rfl (pc' := 1) rfl ?_
  refine tt_bipush hV rfl (by decide) (pc' := 3) rfl ?_
  obtain ⟨v3, m3, h, hr⟩ := h
  refine tt_cv1I hV rfl rfl rfl (Wd_obj (hB _ _ rfl)) (Nat.le_of_ble_eq_true rfl) (Nat.le_of_ble_eq_true rfl) rfl hr (pc' := 6) rfl ?_
  obtain ⟨g1, h⟩ := h
  refine tt_if_eq hV rfl g1 (pt := 18) (by decide) (pf := 9) rfl (fun hc => ?_) (fun hc => ?_)
  · replace h := h.1 hc
    refine tt_iconst hV rfl (pc' := 19) rfl ?_
    exact rq_ret (q := mI43) rfl rfl rfl h
  · replace h := h.2 hc
    refine r_aload_n hV rfl rfl (pc' := 10) rfl ?_
    refine tt_bipush hV rfl (by decide) (pc' := 12) rfl ?_
    obtain ⟨v12, m12, h, hr⟩ := h
    refine tt_cv1I hV rfl rfl rfl (Wd_obj (hB _ _ rfl)) (Nat.le_of_ble_eq_true rfl) (Nat.le_of_ble_eq_true rfl) rfl hr (pc' := 15) rfl ?_
    obtain ⟨g2, h⟩ := h
    refine tt_if_ne hV rfl g2 (pt := 20) (by decide) (pf := 18) rfl (fun hc => ?_) (fun hc => ?_)
    · replace h := h.1 hc
      refine r_aload_n hV rfl rfl (pc' := 21) rfl ?_
      obtain ⟨v21, m21, h, hr⟩ := h
      refine tt_cv0I hV rfl rfl rfl (Wd_obj (hB _ _ rfl)) (Nat.le_of_ble_eq_true rfl) (Nat.le_of_ble_eq_true rfl) rfl hr (pc' := 24) rfl ?_
      refine tt_istore1 hV rfl rfl (pc' := 25) rfl ?_
      refine r_iload_n hV rfl rfl (pc' := 26) rfl ?_
      refine tt_bipush hV rfl (by decide) (pc' := 28) rfl ?_
      obtain ⟨g3, h⟩ := h
      refine tt_icmp_eq hV rfl g3 (by decide) (pt := 41) (by decide) (pf := 31) rfl (fun hc => ?_) (fun hc => ?_)
      · replace h := h.1 hc
        exact h
      · replace h := h.2 hc
        refine r_iload_n hV rfl rfl (pc' := 32) rfl ?_
        refine tt_bipush hV rfl (by decide) (pc' := 34) rfl ?_
        refine tt_icmp_eq hV rfl g3 (by decide) (pt := 41) (by decide) (pf := 37) rfl (fun hc => ?_) (fun hc => ?_)
        · replace h := h.1 hc
          exact h
        · replace h := h.2 hc
          refine tt_iconst hV rfl (pc' := 38) rfl ?_
          refine r_goto hV rfl (pc' := 42) (by decide) ?_
          refine tt_istore2 hV rfl rfl (pc' := 43) rfl ?_
          refine r_iload_n hV rfl rfl (pc' := 44) rfl ?_
          refine tt_if_eq hV rfl (by decide) (pt := 57) (by decide) (pf := 47) rfl (fun hc => absurd hc (by decide)) (fun hc => ?_)
          clear hc
          refine r_aload_n hV rfl rfl (pc' := 48) rfl ?_
          refine tt_iconst hV rfl (pc' := 49) rfl ?_
          obtain ⟨v49, m49, h, hr⟩ := h
          refine tt_cv1I hV rfl rfl rfl (Wd_obj (hB _ _ rfl)) (Nat.le_of_ble_eq_true rfl) (Nat.le_of_ble_eq_true rfl) rfl hr (pc' := 52) rfl ?_
          obtain ⟨g4, h⟩ := h
          refine tt_if_ne hV rfl g4 (pt := 57) (by decide) (pf := 55) rfl (fun hc => ?_) (fun hc => ?_)
          · replace h := h.1 hc
            exact h
          · replace h := h.2 (Decidable.not_not.mp hc)
            refine tt_iconst hV rfl (pc' := 56) rfl ?_
            exact rq_ret (q := mI43) rfl rfl rfl h
    · replace h := h.2 (Decidable.not_not.mp hc)
      refine tt_iconst hV rfl (pc' := 19) rfl ?_
      exact rq_ret (q := mI43) rfl rfl rfl h
theorem P_readClause_41w {X : Cx} {d : Nat} {l1 : Int} {m : Mm} {Q : Int → Mm → Prop} (hB : Bsh X.2.2.1) (h : P_readClause_57 X (d + 1) l1 0 m Q) : P_readClause_41 X (d + 1) l1 m Q := by
  unfold P_readClause_41
  have hV : Clo (gP X.1 X.2.1) (d + 1) 43 4 false (Rq (gP X.1 X.2.1) (d + 1) 43 X.2.2.1 X.2.2.2 Q) := Rq_clo (q := mI43) rfl
  refine tt_iconst hV rfl (pc' := 42) rfl ?_
  refine tt_istore2 hV rfl rfl (pc' := 43) rfl ?_
  refine r_iload_n hV rfl rfl (pc' := 44) rfl ?_
  refine tt_if_eq hV rfl (by decide) (pt := 57) (by decide) (pf := 47) rfl (fun hc => ?_) (fun hc => absurd (by decide) hc)
  clear hc
  exact h
theorem P_readClause_57w {X : Cx} {d : Nat} {l1 : Int} {l2 : Int} {m : Mm} {Q : Int → Mm → Prop} (hB : Bsh X.2.2.1) (h : (-2147483648 ≤ l2 ∧ l2 < 2147483648) ∧ (l2 = 0 → P_readClause_71 X (d + 1) l1 l2 m Q) ∧ (l2 ≠ 0 → P_comingSign X d m (fun v62 m62 => P_isComparison X d v62 m62 (fun v65 m65 => (-2147483648 ≤ v65 ∧ v65 < 2147483648) ∧ (v65 = 0 → P_write X d 2 0 m65 (fun m145 => Q 1 m145)) ∧ (v65 ≠ 0 → P_readClause_71 X (d + 1) l1 l2 m65 Q))))) : P_readClause_57 X (d + 1) l1 l2 m Q := by
  unfold P_readClause_57
  have hV : Clo (gP X.1 X.2.1) (d + 1) 43 4 false (Rq (gP X.1 X.2.1) (d + 1) 43 X.2.2.1 X.2.2.2 Q) := Rq_clo (q := mI43) rfl
  refine r_iload_n hV rfl rfl (pc' := 58) rfl ?_
  obtain ⟨g5, h⟩ := h
  refine tt_if_eq hV rfl g5 (pt := 71) (by decide) (pf := 61) rfl (fun hc => ?_) (fun hc => ?_)
  · replace h := h.1 hc
    exact h
  · replace h := h.2 hc
    refine r_aload_n hV rfl rfl (pc' := 62) rfl ?_
    obtain ⟨v62, m62, h, hr⟩ := h
    refine tt_cv0I hV rfl rfl rfl (Wd_obj (hB _ _ rfl)) (Nat.le_of_ble_eq_true rfl) (Nat.le_of_ble_eq_true rfl) rfl hr (pc' := 65) rfl ?_
    obtain ⟨v65, m65, h, hr⟩ := h
    refine tt_cs1I hV rfl rfl rfl (Nat.le_of_ble_eq_true rfl) (Nat.le_of_ble_eq_true rfl) rfl hr (pc' := 68) rfl ?_
    obtain ⟨g6, h⟩ := h
    refine tt_if_eq hV rfl g6 (pt := 142) (by decide) (pf := 71) rfl (fun hc => ?_) (fun hc => ?_)
    · replace h := h.1 hc
      refine r_aload_n hV rfl rfl (pc' := 143) rfl ?_
      refine tt_iconst hV rfl (pc' := 144) rfl ?_
      refine tt_iconst hV rfl (pc' := 145) rfl ?_
      obtain ⟨m145, h, hr⟩ := h
      refine tt_cv2U hV rfl rfl rfl (Wd_obj (hB _ _ rfl)) (Nat.le_of_ble_eq_true rfl) (Nat.le_of_ble_eq_true rfl) rfl hr (pc' := 148) rfl ?_
      refine tt_iconst hV rfl (pc' := 149) rfl ?_
      exact rq_ret (q := mI43) rfl rfl rfl h
    · replace h := h.2 hc
      exact h
theorem P_readClause_71w {X : Cx} {d : Nat} {l1 : Int} {l2 : Int} {m : Mm} {Q : Int → Mm → Prop} (hB : Bsh X.2.2.1) (h : P_readCondition X d 0 l2 m (fun v74 m74 => (-2147483648 ≤ v74 ∧ v74 < 2147483648) ∧ (v74 = 0 → Q 0 m74) ∧ (v74 ≠ 0 → P_passes X d 63 m74 (fun v83 m83 => (-2147483648 ≤ v83 ∧ v83 < 2147483648) ∧ (v83 ≠ 0 → P_write X d 3 0 m83 (fun m99 => P_readSum X d 0 m99 (fun v104 m104 => (-2147483648 ≤ v104 ∧ v104 < 2147483648) ∧ (v104 ≠ 0 → P_write X d 2 0 m104 (fun m115 => (-2147483648 ≤ (m83 6 2) ∧ (m83 6 2) < 2147483648) ∧ (241 ≤ m83 6 2 → Q 1 m115) ∧ (m83 6 2 < 241 → (0 ≤ m83 6 2 ∧ m83 6 2 < 241) ∧ Q 1 (up m115 7 (m83 6 2) ((iO (m115 7 (m83 6 2)) (m115 6 2))))))) ∧ (v104 = 0 → Q 0 m104)))) ∧ (v83 = 0 → Q 0 m83))))) : P_readClause_71 X (d + 1) l1 l2 m Q := by
  unfold P_readClause_71
  have hV : Clo (gP X.1 X.2.1) (d + 1) 43 4 false (Rq (gP X.1 X.2.1) (d + 1) 43 X.2.2.1 X.2.2.2 Q) := Rq_clo (q := mI43) rfl
  refine r_aload_n hV rfl rfl (pc' := 72) rfl ?_
  refine tt_iconst hV rfl (pc' := 73) rfl ?_
  refine r_iload_n hV rfl rfl (pc' := 74) rfl ?_
  obtain ⟨v74, m74, h, hr⟩ := h
  refine tt_cv2I hV rfl rfl rfl (Wd_obj (hB _ _ rfl)) (Nat.le_of_ble_eq_true rfl) (Nat.le_of_ble_eq_true rfl) rfl hr (pc' := 77) rfl ?_
  obtain ⟨g7, h⟩ := h
  refine tt_if_eq hV rfl g7 (pt := 89) (by decide) (pf := 80) rfl (fun hc => ?_) (fun hc => ?_)
  · replace h := h.1 hc
    refine tt_iconst hV rfl (pc' := 90) rfl ?_
    exact rq_ret (q := mI43) rfl rfl rfl h
  · replace h := h.2 hc
    refine r_aload_n hV rfl rfl (pc' := 81) rfl ?_
    refine tt_bipush hV rfl (by decide) (pc' := 83) rfl ?_
    obtain ⟨v83, m83, h, hr⟩ := h
    refine tt_cv1I hV rfl rfl rfl (Wd_obj (hB _ _ rfl)) (Nat.le_of_ble_eq_true rfl) (Nat.le_of_ble_eq_true rfl) rfl hr (pc' := 86) rfl ?_
    obtain ⟨g8, h⟩ := h
    refine tt_if_ne hV rfl g8 (pt := 91) (by decide) (pf := 89) rfl (fun hc => ?_) (fun hc => ?_)
    · replace h := h.1 hc
      refine r_aload_n hV rfl rfl (pc' := 92) rfl ?_
      refine tt_getI hV (tg := 0) (ci := 5) (kf := 2) rfl rfl (by decide) (hB _ _ rfl) rfl (by decide) (pc' := 95) rfl ?_
      refine tt_istore3 hV rfl rfl (pc' := 96) rfl ?_
      refine r_aload_n hV rfl rfl (pc' := 97) rfl ?_
      refine tt_iconst hV rfl (pc' := 98) rfl ?_
      refine tt_iconst hV rfl (pc' := 99) rfl ?_
      obtain ⟨m99, h, hr⟩ := h
      refine tt_cv2U hV rfl rfl rfl (Wd_obj (hB _ _ rfl)) (Nat.le_of_ble_eq_true rfl) (Nat.le_of_ble_eq_true rfl) rfl hr (pc' := 102) rfl ?_
      refine r_aload_n hV rfl rfl (pc' := 103) rfl ?_
      refine tt_iconst hV rfl (pc' := 104) rfl ?_
      obtain ⟨v104, m104, h, hr⟩ := h
      refine tt_cv1I hV rfl rfl rfl (Wd_obj (hB _ _ rfl)) (Nat.le_of_ble_eq_true rfl) (Nat.le_of_ble_eq_true rfl) rfl hr (pc' := 107) rfl ?_
      obtain ⟨g9, h⟩ := h
      refine tt_if_ne hV rfl g9 (pt := 112) (by decide) (pf := 110) rfl (fun hc => ?_) (fun hc => ?_)
      · replace h := h.1 hc
        refine r_aload_n hV rfl rfl (pc' := 113) rfl ?_
        refine tt_iconst hV rfl (pc' := 114) rfl ?_
        refine tt_iconst hV rfl (pc' := 115) rfl ?_
        obtain ⟨m115, h, hr⟩ := h
        refine tt_cv2U hV rfl rfl rfl (Wd_obj (hB _ _ rfl)) (Nat.le_of_ble_eq_true rfl) (Nat.le_of_ble_eq_true rfl) rfl hr (pc' := 118) rfl ?_
        refine r_iload_n hV rfl rfl (pc' := 119) rfl ?_
        refine r_aload_n hV rfl rfl (pc' := 120) rfl ?_
        refine tt_getR hV (tg := 6) (ci := 5) (kf := 1) rfl rfl (by decide) (hB _ _ rfl) rfl (by decide) (pc' := 123) rfl ?_
        refine q_alen hV rfl (hB _ _ rfl) (by decide) (z := 241) rfl (pc' := 124) rfl ?_
        obtain ⟨g10, h⟩ := h
        refine tt_icmp_ge hV rfl g10 (by decide) (pt := 140) (by decide) (pf := 127) rfl (fun hc => ?_) (fun hc => ?_)
        · replace h := h.1 hc
          refine tt_iconst hV rfl (pc' := 141) rfl ?_
          exact rq_ret (q := mI43) rfl rfl rfl h
        · replace h := h.2 (Int.not_le.mp hc)
          refine r_aload_n hV rfl rfl (pc' := 128) rfl ?_
          refine tt_getR hV (tg := 6) (ci := 5) (kf := 1) rfl rfl (by decide) (hB _ _ rfl) rfl (by decide) (pc' := 131) rfl ?_
          refine r_iload_n hV rfl rfl (pc' := 132) rfl ?_
          refine r_dup2 hV rfl rfl rfl (pc' := 133) rfl ?_
          obtain ⟨g11, h⟩ := h
          refine q_iald hV rfl (hB _ _ rfl) (Nat.le_of_ble_eq_true rfl) rfl g11 (pc' := 134) rfl ?_
          refine r_aload_n hV rfl rfl (pc' := 135) rfl ?_
          refine tt_getI hV (tg := 0) (ci := 5) (kf := 2) rfl rfl (by decide) (hB _ _ rfl) rfl (by decide) (pc' := 138) rfl ?_
          refine tt_ior hV rfl (pc' := 139) rfl ?_
          refine q_iast hV rfl (hB _ _ rfl) (Nat.le_of_ble_eq_true rfl) rfl g11 (pc' := 140) rfl ?_
          refine tt_iconst hV rfl (pc' := 141) rfl ?_
          exact rq_ret (q := mI43) rfl rfl rfl h
      · replace h := h.2 (Decidable.not_not.mp hc)
        refine tt_iconst hV rfl (pc' := 111) rfl ?_
        exact rq_ret (q := mI43) rfl rfl rfl h
    · replace h := h.2 (Decidable.not_not.mp hc)
      refine tt_iconst hV rfl (pc' := 90) rfl ?_
      exact rq_ret (q := mI43) rfl rfl rfl h
theorem P_isComparisonw {X : Cx} {d : Nat} {x : Int} {m : Mm} {Q : Int → Mm → Prop} (hB : Bsh X.2.2.1) (h : (-2147483648 ≤ x ∧ x < 2147483648) ∧ (x = 61 → Q 1 m) ∧ (x ≠ 61 → (x = 60 → Q 1 m) ∧ (x ≠ 60 → (x ≠ 62 → Q 0 m) ∧ (x = 62 → Q 1 m)))) : P_isComparison X d x m Q := by
  unfold P_isComparison
  have hV : Clo (gP X.1 X.2.1) d 44 1 false (Rq (gP X.1 X.2.1) d 44 X.2.2.1 X.2.2.2 Q) := Rq_clo (q := mI44) rfl
  refine r_iload_n hV rfl rfl (pc' := 1) rfl ?_
  refine tt_bipush hV rfl (by decide) (pc' := 3) rfl ?_
  obtain ⟨g1, h⟩ := h
  refine tt_icmp_eq hV rfl g1 (by decide) (pt := 18) (by decide) (pf := 6) rfl (fun hc => ?_) (fun hc => ?_)
  · replace h := h.1 hc
    refine tt_iconst hV rfl (pc' := 19) rfl ?_
    refine r_goto hV rfl (pc' := 23) (by decide) ?_
    exact rq_ret (q := mI44) rfl rfl rfl h
  · replace h := h.2 hc
    refine r_iload_n hV rfl rfl (pc' := 7) rfl ?_
    refine tt_bipush hV rfl (by decide) (pc' := 9) rfl ?_
    refine tt_icmp_eq hV rfl g1 (by decide) (pt := 18) (by decide) (pf := 12) rfl (fun hc => ?_) (fun hc => ?_)
    · replace h := h.1 hc
      refine tt_iconst hV rfl (pc' := 19) rfl ?_
      refine r_goto hV rfl (pc' := 23) (by decide) ?_
      exact rq_ret (q := mI44) rfl rfl rfl h
    · replace h := h.2 hc
      refine r_iload_n hV rfl rfl (pc' := 13) rfl ?_
      refine tt_bipush hV rfl (by decide) (pc' := 15) rfl ?_
      refine tt_icmp_ne hV rfl g1 (by decide) (pt := 22) (by decide) (pf := 18) rfl (fun hc => ?_) (fun hc => ?_)
      · replace h := h.1 hc
        refine tt_iconst hV rfl (pc' := 23) rfl ?_
        exact rq_ret (q := mI44) rfl rfl rfl h
      · replace h := h.2 (Decidable.not_not.mp hc)
        refine tt_iconst hV rfl (pc' := 19) rfl ?_
        refine r_goto hV rfl (pc' := 23) (by decide) ?_
        exact rq_ret (q := mI44) rfl rfl rfl h
theorem P_readConditionw {X : Cx} {d : Nat} {x : Int} {y : Int} {m : Mm} {Q : Int → Mm → Prop} (hB : Bsh X.2.2.1) (h : P_readTruth X d x y m (fun v3 m3 => P_readCondition_10 X (d + 1) x y v3 0 m3 Q)) : P_readCondition X (d + 1) x y m Q := by
  unfold P_readCondition
  have hV : Clo (gP X.1 X.2.1) (d + 1) 45 5 false (Rq (gP X.1 X.2.1) (d + 1) 45 X.2.2.1 X.2.2.2 Q) := Rq_clo (q := mI45) rfl
  refine r_aload_n hV rfl rfl (pc' := 1) rfl ?_
  refine r_iload_n hV rfl rfl (pc' := 2) rfl ?_
  refine r_iload_n hV rfl rfl (pc' := 3) rfl ?_
  obtain ⟨v3, m3, h, hr⟩ := h
  refine tt_cv2I hV rfl rfl rfl (Wd_obj (hB _ _ rfl)) (Nat.le_of_ble_eq_true rfl) (Nat.le_of_ble_eq_true rfl) rfl hr (pc' := 6) rfl ?_
  refine tt_istore3 hV rfl rfl (pc' := 7) rfl ?_
  refine tt_iconst hV rfl (pc' := 8) rfl ?_
  refine tt_istore4 hV rfl rfl (pc' := 10) rfl ?_
  exact h
theorem P_readCondition_10w {X : Cx} {d : Nat} {x : Int} {y : Int} {l3 : Int} {l4 : Int} {m : Mm} {Q : Int → Mm → Prop} (hB : Bsh X.2.2.1) (h : (-2147483648 ≤ l4 ∧ l4 < 2147483648) ∧ (240 ≤ l4 → (l3 = 0 ∨ l3 = 1) ∧ Q l3 m) ∧ (l4 < 240 → (-2147483648 ≤ l3 ∧ l3 < 2147483648) ∧ (l3 = 0 → (l3 = 0 ∨ l3 = 1) ∧ Q l3 m) ∧ (l3 ≠ 0 → P_passes X d 124 m (fun v25 m25 => (-2147483648 ≤ v25 ∧ v25 < 2147483648) ∧ (v25 = 0 → (l3 = 0 ∨ l3 = 1) ∧ Q l3 m25) ∧ (v25 ≠ 0 → P_readTruth X d x 0 m25 (fun v34 m34 => P_write X d 13 0 m34 (fun m42 => P_readCondition_10 X (d + 1) x y v34 (l4 + 1) m42 Q))))))) : P_readCondition_10 X (d + 1) x y l3 l4 m Q := by
  unfold P_readCondition_10
  have hV : Clo (gP X.1 X.2.1) (d + 1) 45 5 false (Rq (gP X.1 X.2.1) (d + 1) 45 X.2.2.1 X.2.2.2 Q) := Rq_clo (q := mI45) rfl
  refine r_iload hV rfl rfl (pc' := 12) rfl ?_
  refine tt_sipush hV rfl (by decide) (pc' := 15) rfl ?_
  obtain ⟨g1, h⟩ := h
  refine tt_icmp_ge hV rfl g1 (by decide) (pt := 51) (by decide) (pf := 18) rfl (fun hc => ?_) (fun hc => ?_)
  · replace h := h.1 hc
    refine r_iload_n hV rfl rfl (pc' := 52) rfl ?_
    obtain ⟨g2, h⟩ := h
    exact rq_ret (q := mI45) rfl rfl (sR_bool g2) h
  · replace h := h.2 (Int.not_le.mp hc)
    refine r_iload_n hV rfl rfl (pc' := 19) rfl ?_
    obtain ⟨g3, h⟩ := h
    refine tt_if_eq hV rfl g3 (pt := 51) (by decide) (pf := 22) rfl (fun hc => ?_) (fun hc => ?_)
    · replace h := h.1 hc
      refine r_iload_n hV rfl rfl (pc' := 52) rfl ?_
      obtain ⟨g4, h⟩ := h
      exact rq_ret (q := mI45) rfl rfl (sR_bool g4) h
    · replace h := h.2 hc
      refine r_aload_n hV rfl rfl (pc' := 23) rfl ?_
      refine tt_bipush hV rfl (by decide) (pc' := 25) rfl ?_
      obtain ⟨v25, m25, h, hr⟩ := h
      refine tt_cv1I hV rfl rfl rfl (Wd_obj (hB _ _ rfl)) (Nat.le_of_ble_eq_true rfl) (Nat.le_of_ble_eq_true rfl) rfl hr (pc' := 28) rfl ?_
      obtain ⟨g5, h⟩ := h
      refine tt_if_eq hV rfl g5 (pt := 51) (by decide) (pf := 31) rfl (fun hc => ?_) (fun hc => ?_)
      · replace h := h.1 hc
        refine r_iload_n hV rfl rfl (pc' := 52) rfl ?_
        obtain ⟨g6, h⟩ := h
        exact rq_ret (q := mI45) rfl rfl (sR_bool g6) h
      · replace h := h.2 hc
        refine r_aload_n hV rfl rfl (pc' := 32) rfl ?_
        refine r_iload_n hV rfl rfl (pc' := 33) rfl ?_
        refine tt_iconst hV rfl (pc' := 34) rfl ?_
        obtain ⟨v34, m34, h, hr⟩ := h
        refine tt_cv2I hV rfl rfl rfl (Wd_obj (hB _ _ rfl)) (Nat.le_of_ble_eq_true rfl) (Nat.le_of_ble_eq_true rfl) rfl hr (pc' := 37) rfl ?_
        refine tt_istore3 hV rfl rfl (pc' := 38) rfl ?_
        refine r_aload_n hV rfl rfl (pc' := 39) rfl ?_
        refine tt_bipush hV rfl (by decide) (pc' := 41) rfl ?_
        refine tt_iconst hV rfl (pc' := 42) rfl ?_
        obtain ⟨m42, h, hr⟩ := h
        refine tt_cv2U hV rfl rfl rfl (Wd_obj (hB _ _ rfl)) (Nat.le_of_ble_eq_true rfl) (Nat.le_of_ble_eq_true rfl) rfl hr (pc' := 45) rfl ?_
        refine tt_iinc4 hV rfl rfl (pc' := 48) rfl ?_
        refine r_goto hV rfl (pc' := 10) (by decide) ?_
        exact h
theorem P_readTruthw {X : Cx} {d : Nat} {x : Int} {y : Int} {m : Mm} {Q : Int → Mm → Prop} (hB : Bsh X.2.2.1) (h : P_readUnit X d x y m (fun v3 m3 => P_readTruth_10 X (d + 1) x y v3 0 m3 Q)) : P_readTruth X (d + 1) x y m Q := by
  unfold P_readTruth
  have hV : Clo (gP X.1 X.2.1) (d + 1) 46 5 false (Rq (gP X.1 X.2.1) (d + 1) 46 X.2.2.1 X.2.2.2 Q) := Rq_clo (q := mI46) rfl
  refine r_aload_n hV rfl rfl (pc' := 1) rfl ?_
  refine r_iload_n hV rfl rfl (pc' := 2) rfl ?_
  refine r_iload_n hV rfl rfl (pc' := 3) rfl ?_
  obtain ⟨v3, m3, h, hr⟩ := h
  refine tt_cv2I hV rfl rfl rfl (Wd_obj (hB _ _ rfl)) (Nat.le_of_ble_eq_true rfl) (Nat.le_of_ble_eq_true rfl) rfl hr (pc' := 6) rfl ?_
  refine tt_istore3 hV rfl rfl (pc' := 7) rfl ?_
  refine tt_iconst hV rfl (pc' := 8) rfl ?_
  refine tt_istore4 hV rfl rfl (pc' := 10) rfl ?_
  exact h
theorem P_readTruth_10w {X : Cx} {d : Nat} {x : Int} {y : Int} {l3 : Int} {l4 : Int} {m : Mm} {Q : Int → Mm → Prop} (hB : Bsh X.2.2.1) (h : (-2147483648 ≤ l4 ∧ l4 < 2147483648) ∧ (240 ≤ l4 → (l3 = 0 ∨ l3 = 1) ∧ Q l3 m) ∧ (l4 < 240 → (-2147483648 ≤ l3 ∧ l3 < 2147483648) ∧ (l3 = 0 → (l3 = 0 ∨ l3 = 1) ∧ Q l3 m) ∧ (l3 ≠ 0 → P_passes X d 38 m (fun v25 m25 => (-2147483648 ≤ v25 ∧ v25 < 2147483648) ∧ (v25 = 0 → (l3 = 0 ∨ l3 = 1) ∧ Q l3 m25) ∧ (v25 ≠ 0 → P_readUnit X d x 0 m25 (fun v34 m34 => P_write X d 12 0 m34 (fun m42 => P_readTruth_10 X (d + 1) x y v34 (l4 + 1) m42 Q))))))) : P_readTruth_10 X (d + 1) x y l3 l4 m Q := by
  unfold P_readTruth_10
  have hV : Clo (gP X.1 X.2.1) (d + 1) 46 5 false (Rq (gP X.1 X.2.1) (d + 1) 46 X.2.2.1 X.2.2.2 Q) := Rq_clo (q := mI46) rfl
  refine r_iload hV rfl rfl (pc' := 12) rfl ?_
  refine tt_sipush hV rfl (by decide) (pc' := 15) rfl ?_
  obtain ⟨g1, h⟩ := h
  refine tt_icmp_ge hV rfl g1 (by decide) (pt := 51) (by decide) (pf := 18) rfl (fun hc => ?_) (fun hc => ?_)
  · replace h := h.1 hc
    refine r_iload_n hV rfl rfl (pc' := 52) rfl ?_
    obtain ⟨g2, h⟩ := h
    exact rq_ret (q := mI46) rfl rfl (sR_bool g2) h
  · replace h := h.2 (Int.not_le.mp hc)
    refine r_iload_n hV rfl rfl (pc' := 19) rfl ?_
    obtain ⟨g3, h⟩ := h
    refine tt_if_eq hV rfl g3 (pt := 51) (by decide) (pf := 22) rfl (fun hc => ?_) (fun hc => ?_)
    · replace h := h.1 hc
      refine r_iload_n hV rfl rfl (pc' := 52) rfl ?_
      obtain ⟨g4, h⟩ := h
      exact rq_ret (q := mI46) rfl rfl (sR_bool g4) h
    · replace h := h.2 hc
      refine r_aload_n hV rfl rfl (pc' := 23) rfl ?_
      refine tt_bipush hV rfl (by decide) (pc' := 25) rfl ?_
      obtain ⟨v25, m25, h, hr⟩ := h
      refine tt_cv1I hV rfl rfl rfl (Wd_obj (hB _ _ rfl)) (Nat.le_of_ble_eq_true rfl) (Nat.le_of_ble_eq_true rfl) rfl hr (pc' := 28) rfl ?_
      obtain ⟨g5, h⟩ := h
      refine tt_if_eq hV rfl g5 (pt := 51) (by decide) (pf := 31) rfl (fun hc => ?_) (fun hc => ?_)
      · replace h := h.1 hc
        refine r_iload_n hV rfl rfl (pc' := 52) rfl ?_
        obtain ⟨g6, h⟩ := h
        exact rq_ret (q := mI46) rfl rfl (sR_bool g6) h
      · replace h := h.2 hc
        refine r_aload_n hV rfl rfl (pc' := 32) rfl ?_
        refine r_iload_n hV rfl rfl (pc' := 33) rfl ?_
        refine tt_iconst hV rfl (pc' := 34) rfl ?_
        obtain ⟨v34, m34, h, hr⟩ := h
        refine tt_cv2I hV rfl rfl rfl (Wd_obj (hB _ _ rfl)) (Nat.le_of_ble_eq_true rfl) (Nat.le_of_ble_eq_true rfl) rfl hr (pc' := 37) rfl ?_
        refine tt_istore3 hV rfl rfl (pc' := 38) rfl ?_
        refine r_aload_n hV rfl rfl (pc' := 39) rfl ?_
        refine tt_bipush hV rfl (by decide) (pc' := 41) rfl ?_
        refine tt_iconst hV rfl (pc' := 42) rfl ?_
        obtain ⟨m42, h, hr⟩ := h
        refine tt_cv2U hV rfl rfl rfl (Wd_obj (hB _ _ rfl)) (Nat.le_of_ble_eq_true rfl) (Nat.le_of_ble_eq_true rfl) rfl hr (pc' := 45) rfl ?_
        refine tt_iinc4 hV rfl rfl (pc' := 48) rfl ?_
        refine r_goto hV rfl (pc' := 10) (by decide) ?_
        exact h
theorem P_readUnitw {X : Cx} {d : Nat} {x : Int} {y : Int} {m : Mm} {Q : Int → Mm → Prop} (hB : Bsh X.2.2.1) (h : P_comingSign X d m (fun v1 m1 => (-2147483648 ≤ y ∧ y < 2147483648) ∧ (y ≠ 0 → P_readUnit_90 X (d + 1) x y v1 m1 Q) ∧ (y = 0 → (-2147483648 ≤ v1 ∧ v1 < 2147483648) ∧ (v1 = 33 → P_readUnit_21 X (d + 1) x y v1 m1 Q) ∧ (v1 ≠ 33 → (v1 ≠ 40 → P_readUnit_90 X (d + 1) x y v1 m1 Q) ∧ (v1 = 40 → P_readUnit_21 X (d + 1) x y v1 m1 Q))))) : P_readUnit X (d + 1) x y m Q := by
  unfold P_readUnit
  have hV : Clo (gP X.1 X.2.1) (d + 1) 47 6 false (Rq (gP X.1 X.2.1) (d + 1) 47 X.2.2.1 X.2.2.2 Q) := Rq_clo (q := mI47) rfl
  refine r_aload_n hV rfl rfl (pc' := 1) rfl ?_
  obtain ⟨v1, m1, h, hr⟩ := h
  refine tt_cv0I hV rfl rfl rfl (Wd_obj (hB _ _ rfl)) (Nat.le_of_ble_eq_true rfl) (Nat.le_of_ble_eq_true rfl) rfl hr (pc' := 4) rfl ?_
  refine tt_istore3 hV rfl rfl (pc' := 5) rfl ?_
  refine r_iload_n hV rfl rfl (pc' := 6) rfl ?_
  obtain ⟨g1, h⟩ := h
  refine tt_if_ne hV rfl g1 (pt := 90) (by decide) (pf := 9) rfl (fun hc => ?_) (fun hc => ?_)
  · replace h := h.1 hc
    exact h
  · replace h := h.2 (Decidable.not_not.mp hc)
    refine r_iload_n hV rfl rfl (pc' := 10) rfl ?_
    refine tt_bipush hV rfl (by decide) (pc' := 12) rfl ?_
    obtain ⟨g2, h⟩ := h
    refine tt_icmp_eq hV rfl g2 (by decide) (pt := 21) (by decide) (pf := 15) rfl (fun hc => ?_) (fun hc => ?_)
    · replace h := h.1 hc
      exact h
    · replace h := h.2 hc
      refine r_iload_n hV rfl rfl (pc' := 16) rfl ?_
      refine tt_bipush hV rfl (by decide) (pc' := 18) rfl ?_
      refine tt_icmp_ne hV rfl g2 (by decide) (pt := 90) (by decide) (pf := 21) rfl (fun hc => ?_) (fun hc => ?_)
      · replace h := h.1 hc
        exact h
      · replace h := h.2 (Decidable.not_not.mp hc)
        exact h
theorem P_readUnit_21w {X : Cx} {d : Nat} {x : Int} {y : Int} {l3 : Int} {m : Mm} {Q : Int → Mm → Prop} (hB : Bsh X.2.2.1) (h : (-2147483648 ≤ x ∧ x < 2147483648) ∧ (x < 6 → (-2147483648 ≤ l3 ∧ l3 < 2147483648) ∧ (l3 ≠ 40 → P_readUnit X d (x + 1) 0 (up m 6 3 (m 6 3 + 1)) (fun v76 m76 => P_write X d 4 0 m76 (fun m84 => (v76 = 0 ∨ v76 = 1) ∧ Q v76 m84))) ∧ (l3 = 40 → P_readCondition X d (x + 1) 0 (up m 6 3 (m 6 3 + 1)) (fun v50 m50 => (-2147483648 ≤ v50 ∧ v50 < 2147483648) ∧ (v50 = 0 → Q 0 m50) ∧ (v50 ≠ 0 → P_passes X d 41 m50 (fun v59 m59 => (-2147483648 ≤ v59 ∧ v59 < 2147483648) ∧ (v59 = 0 → Q 0 m59) ∧ (v59 ≠ 0 → Q 1 m59)))))) ∧ (6 ≤ x → Q 0 m)) : P_readUnit_21 X (d + 1) x y l3 m Q := by
  unfold P_readUnit_21
  have hV : Clo (gP X.1 X.2.1) (d + 1) 47 6 false (Rq (gP X.1 X.2.1) (d + 1) 47 X.2.2.1 X.2.2.2 Q) := Rq_clo (q := mI47) rfl
  refine r_iload_n hV rfl rfl (pc' := 22) rfl ?_
  refine tt_bipush hV rfl (by decide) (pc' := 24) rfl ?_
  obtain ⟨g3, h⟩ := h
  refine tt_icmp_lt hV rfl g3 (by decide) (pt := 29) (by decide) (pf := 27) rfl (fun hc => ?_) (fun hc => ?_)
  · replace h := h.1 hc
    refine r_aload_n hV rfl rfl (pc' := 30) rfl ?_
    refine r_dup hV rfl rfl (pc' := 31) rfl ?_
    refine tt_getI hV (tg := 0) (ci := 5) (kf := 3) rfl rfl (by decide) (hB _ _ rfl) rfl (by decide) (pc' := 34) rfl ?_
    refine tt_iconst hV rfl (pc' := 35) rfl ?_
    refine tt_iadd hV rfl (pc' := 36) rfl ?_
    refine tt_putI hV (tg := 0) (ci := 5) (kf := 3) rfl rfl (Or.inl rfl) (hB _ _ rfl) rfl (by decide) rfl (pc' := 39) rfl ?_
    refine r_iload_n hV rfl rfl (pc' := 40) rfl ?_
    refine tt_bipush hV rfl (by decide) (pc' := 42) rfl ?_
    obtain ⟨g4, h⟩ := h
    refine tt_icmp_ne hV rfl g4 (by decide) (pt := 71) (by decide) (pf := 45) rfl (fun hc => ?_) (fun hc => ?_)
    · replace h := h.1 hc
      refine r_aload_n hV rfl rfl (pc' := 72) rfl ?_
      refine r_iload_n hV rfl rfl (pc' := 73) rfl ?_
      refine tt_iconst hV rfl (pc' := 74) rfl ?_
      refine tt_iadd hV rfl (pc' := 75) rfl ?_
      refine tt_iconst hV rfl (pc' := 76) rfl ?_
      obtain ⟨v76, m76, h, hr⟩ := h
      refine tt_cv2I hV rfl rfl rfl (Wd_obj (hB _ _ rfl)) (Nat.le_of_ble_eq_true rfl) (Nat.le_of_ble_eq_true rfl) rfl hr (pc' := 79) rfl ?_
      refine tt_istore4 hV rfl rfl (pc' := 81) rfl ?_
      refine r_aload_n hV rfl rfl (pc' := 82) rfl ?_
      refine tt_iconst hV rfl (pc' := 83) rfl ?_
      refine tt_iconst hV rfl (pc' := 84) rfl ?_
      obtain ⟨m84, h, hr⟩ := h
      refine tt_cv2U hV rfl rfl rfl (Wd_obj (hB _ _ rfl)) (Nat.le_of_ble_eq_true rfl) (Nat.le_of_ble_eq_true rfl) rfl hr (pc' := 87) rfl ?_
      refine r_iload hV rfl rfl (pc' := 89) rfl ?_
      obtain ⟨g5, h⟩ := h
      exact rq_ret (q := mI47) rfl rfl (sR_bool g5) h
    · replace h := h.2 (Decidable.not_not.mp hc)
      refine r_aload_n hV rfl rfl (pc' := 46) rfl ?_
      refine r_iload_n hV rfl rfl (pc' := 47) rfl ?_
      refine tt_iconst hV rfl (pc' := 48) rfl ?_
      refine tt_iadd hV rfl (pc' := 49) rfl ?_
      refine tt_iconst hV rfl (pc' := 50) rfl ?_
      obtain ⟨v50, m50, h, hr⟩ := h
      refine tt_cv2I hV rfl rfl rfl (Wd_obj (hB _ _ rfl)) (Nat.le_of_ble_eq_true rfl) (Nat.le_of_ble_eq_true rfl) rfl hr (pc' := 53) rfl ?_
      obtain ⟨g6, h⟩ := h
      refine tt_if_eq hV rfl g6 (pt := 69) (by decide) (pf := 56) rfl (fun hc => ?_) (fun hc => ?_)
      · replace h := h.1 hc
        refine tt_iconst hV rfl (pc' := 70) rfl ?_
        exact rq_ret (q := mI47) rfl rfl rfl h
      · replace h := h.2 hc
        refine r_aload_n hV rfl rfl (pc' := 57) rfl ?_
        refine tt_bipush hV rfl (by decide) (pc' := 59) rfl ?_
        obtain ⟨v59, m59, h, hr⟩ := h
        refine tt_cv1I hV rfl rfl rfl (Wd_obj (hB _ _ rfl)) (Nat.le_of_ble_eq_true rfl) (Nat.le_of_ble_eq_true rfl) rfl hr (pc' := 62) rfl ?_
        obtain ⟨g7, h⟩ := h
        refine tt_if_eq hV rfl g7 (pt := 69) (by decide) (pf := 65) rfl (fun hc => ?_) (fun hc => ?_)
        · replace h := h.1 hc
          refine tt_iconst hV rfl (pc' := 70) rfl ?_
          exact rq_ret (q := mI47) rfl rfl rfl h
        · replace h := h.2 hc
          refine tt_iconst hV rfl (pc' := 66) rfl ?_
          refine r_goto hV rfl (pc' := 70) (by decide) ?_
          exact rq_ret (q := mI47) rfl rfl rfl h
  · replace h := h.2 (Int.not_lt.mp hc)
    refine tt_iconst hV rfl (pc' := 28) rfl ?_
    exact rq_ret (q := mI47) rfl rfl rfl h
theorem P_readUnit_90w {X : Cx} {d : Nat} {x : Int} {y : Int} {l3 : Int} {m : Mm} {Q : Int → Mm → Prop} (hB : Bsh X.2.2.1) (h : (-2147483648 ≤ y ∧ y < 2147483648) ∧ (y ≠ 0 → P_readUnit_104 X (d + 1) x y l3 m Q) ∧ (y = 0 → P_readSum X d x m (fun v96 m96 => (-2147483648 ≤ v96 ∧ v96 < 2147483648) ∧ (v96 ≠ 0 → P_readUnit_104 X (d + 1) x y l3 m96 Q) ∧ (v96 = 0 → Q 0 m96)))) : P_readUnit_90 X (d + 1) x y l3 m Q := by
  unfold P_readUnit_90
  have hV : Clo (gP X.1 X.2.1) (d + 1) 47 6 false (Rq (gP X.1 X.2.1) (d + 1) 47 X.2.2.1 X.2.2.2 Q) := Rq_clo (q := mI47) rfl
  refine r_iload_n hV rfl rfl (pc' := 91) rfl ?_
  obtain ⟨g8, h⟩ := h
  refine tt_if_ne hV rfl g8 (pt := 104) (by decide) (pf := 94) rfl (fun hc => ?_) (fun hc => ?_)
  · replace h := h.1 hc
    exact h
  · replace h := h.2 (Decidable.not_not.mp hc)
    refine r_aload_n hV rfl rfl (pc' := 95) rfl ?_
    refine r_iload_n hV rfl rfl (pc' := 96) rfl ?_
    obtain ⟨v96, m96, h, hr⟩ := h
    refine tt_cv1I hV rfl rfl rfl (Wd_obj (hB _ _ rfl)) (Nat.le_of_ble_eq_true rfl) (Nat.le_of_ble_eq_true rfl) rfl hr (pc' := 99) rfl ?_
    obtain ⟨g9, h⟩ := h
    refine tt_if_ne hV rfl g9 (pt := 104) (by decide) (pf := 102) rfl (fun hc => ?_) (fun hc => ?_)
    · replace h := h.1 hc
      exact h
    · replace h := h.2 (Decidable.not_not.mp hc)
      refine tt_iconst hV rfl (pc' := 103) rfl ?_
      exact rq_ret (q := mI47) rfl rfl rfl h
theorem P_readUnit_104w {X : Cx} {d : Nat} {x : Int} {y : Int} {l3 : Int} {m : Mm} {Q : Int → Mm → Prop} (hB : Bsh X.2.2.1) (h : P_comingSign X d m (fun v105 m105 => P_isComparison X d v105 m105 (fun v112 m112 => (-2147483648 ≤ v112 ∧ v112 < 2147483648) ∧ (v112 ≠ 0 → P_readSum X d x (up m112 6 3 (m112 6 3 + 1)) (fun v132 m132 => (-2147483648 ≤ v105 ∧ v105 < 2147483648) ∧ (v105 ≠ 61 → (v105 ≠ 60 → P_write X d 11 0 m132 (fun m165 => (v132 = 0 ∨ v132 = 1) ∧ Q v132 m165)) ∧ (v105 = 60 → P_write X d 10 0 m132 (fun m165 => (v132 = 0 ∨ v132 = 1) ∧ Q v132 m165))) ∧ (v105 = 61 → P_write X d 9 0 m132 (fun m165 => (v132 = 0 ∨ v132 = 1) ∧ Q v132 m165)))) ∧ (v112 = 0 → Q 0 m112)))) : P_readUnit_104 X (d + 1) x y l3 m Q := by
  unfold P_readUnit_104
  have hV : Clo (gP X.1 X.2.1) (d + 1) 47 6 false (Rq (gP X.1 X.2.1) (d + 1) 47 X.2.2.1 X.2.2.2 Q) := Rq_clo (q := mI47) rfl
  refine r_aload_n hV rfl rfl (pc' := 105) rfl ?_
  obtain ⟨v105, m105, h, hr⟩ := h
  refine tt_cv0I hV rfl rfl rfl (Wd_obj (hB _ _ rfl)) (Nat.le_of_ble_eq_true rfl) (Nat.le_of_ble_eq_true rfl) rfl hr (pc' := 108) rfl ?_
  refine tt_istore4 hV rfl rfl (pc' := 110) rfl ?_
  refine r_iload hV rfl rfl (pc' := 112) rfl ?_
  obtain ⟨v112, m112, h, hr⟩ := h
  refine tt_cs1I hV rfl rfl rfl (Nat.le_of_ble_eq_true rfl) (Nat.le_of_ble_eq_true rfl) rfl hr (pc' := 115) rfl ?_
  obtain ⟨g10, h⟩ := h
  refine tt_if_ne hV rfl g10 (pt := 120) (by decide) (pf := 118) rfl (fun hc => ?_) (fun hc => ?_)
  · replace h := h.1 hc
    refine r_aload_n hV rfl rfl (pc' := 121) rfl ?_
    refine r_dup hV rfl rfl (pc' := 122) rfl ?_
    refine tt_getI hV (tg := 0) (ci := 5) (kf := 3) rfl rfl (by decide) (hB _ _ rfl) rfl (by decide) (pc' := 125) rfl ?_
    refine tt_iconst hV rfl (pc' := 126) rfl ?_
    refine tt_iadd hV rfl (pc' := 127) rfl ?_
    refine tt_putI hV (tg := 0) (ci := 5) (kf := 3) rfl rfl (Or.inl rfl) (hB _ _ rfl) rfl (by decide) rfl (pc' := 130) rfl ?_
    refine r_aload_n hV rfl rfl (pc' := 131) rfl ?_
    refine r_iload_n hV rfl rfl (pc' := 132) rfl ?_
    obtain ⟨v132, m132, h, hr⟩ := h
    refine tt_cv1I hV rfl rfl rfl (Wd_obj (hB _ _ rfl)) (Nat.le_of_ble_eq_true rfl) (Nat.le_of_ble_eq_true rfl) rfl hr (pc' := 135) rfl ?_
    refine tt_istore5 hV rfl rfl (pc' := 137) rfl ?_
    refine r_aload_n hV rfl rfl (pc' := 138) rfl ?_
    refine r_iload hV rfl rfl (pc' := 140) rfl ?_
    refine tt_bipush hV rfl (by decide) (pc' := 142) rfl ?_
    obtain ⟨g11, h⟩ := h
    refine tt_icmp_ne hV rfl g11 (by decide) (pt := 150) (by decide) (pf := 145) rfl (fun hc => ?_) (fun hc => ?_)
    · replace h := h.1 hc
      refine r_iload hV rfl rfl (pc' := 152) rfl ?_
      refine tt_bipush hV rfl (by decide) (pc' := 154) rfl ?_
      refine tt_icmp_ne hV rfl g11 (by decide) (pt := 162) (by decide) (pf := 157) rfl (fun hc => ?_) (fun hc => ?_)
      · replace h := h.1 hc
        refine tt_bipush hV rfl (by decide) (pc' := 164) rfl ?_
        refine tt_iconst hV rfl (pc' := 165) rfl ?_
        obtain ⟨m165, h, hr⟩ := h
        refine tt_cv2U hV rfl rfl rfl (Wd_obj (hB _ _ rfl)) (Nat.le_of_ble_eq_true rfl) (Nat.le_of_ble_eq_true rfl) rfl hr (pc' := 168) rfl ?_
        refine r_iload hV rfl rfl (pc' := 170) rfl ?_
        obtain ⟨g12, h⟩ := h
        exact rq_ret (q := mI47) rfl rfl (sR_bool g12) h
      · replace h := h.2 (Decidable.not_not.mp hc)
        refine tt_bipush hV rfl (by decide) (pc' := 159) rfl ?_
        refine r_goto hV rfl (pc' := 164) (by decide) ?_
        refine tt_iconst hV rfl (pc' := 165) rfl ?_
        obtain ⟨m165, h, hr⟩ := h
        refine tt_cv2U hV rfl rfl rfl (Wd_obj (hB _ _ rfl)) (Nat.le_of_ble_eq_true rfl) (Nat.le_of_ble_eq_true rfl) rfl hr (pc' := 168) rfl ?_
        refine r_iload hV rfl rfl (pc' := 170) rfl ?_
        obtain ⟨g13, h⟩ := h
        exact rq_ret (q := mI47) rfl rfl (sR_bool g13) h
    · replace h := h.2 (Decidable.not_not.mp hc)
      refine tt_bipush hV rfl (by decide) (pc' := 147) rfl ?_
      refine r_goto hV rfl (pc' := 164) (by decide) ?_
      refine tt_iconst hV rfl (pc' := 165) rfl ?_
      obtain ⟨m165, h, hr⟩ := h
      refine tt_cv2U hV rfl rfl rfl (Wd_obj (hB _ _ rfl)) (Nat.le_of_ble_eq_true rfl) (Nat.le_of_ble_eq_true rfl) rfl hr (pc' := 168) rfl ?_
      refine r_iload hV rfl rfl (pc' := 170) rfl ?_
      obtain ⟨g14, h⟩ := h
      exact rq_ret (q := mI47) rfl rfl (sR_bool g14) h
  · replace h := h.2 (Decidable.not_not.mp hc)
    refine tt_iconst hV rfl (pc' := 119) rfl ?_
    exact rq_ret (q := mI47) rfl rfl rfl h
theorem P_readSumw {X : Cx} {d : Nat} {x : Int} {m : Mm} {Q : Int → Mm → Prop} (hB : Bsh X.2.2.1) (h : P_readTerm X d x m (fun v2 m2 => P_readSum_8 X (d + 1) x v2 0 none m2 Q)) : P_readSum X (d + 1) x m Q := by
  unfold P_readSum
  have hV : Clo (gP X.1 X.2.1) (d + 1) 48 5 false (Rq (gP X.1 X.2.1) (d + 1) 48 X.2.2.1 X.2.2.2 Q) := Rq_clo (q := mI48) rfl
  refine r_aload_n hV rfl rfl (pc' := 1) rfl ?_
  refine r_iload_n hV rfl rfl (pc' := 2) rfl ?_
  obtain ⟨v2, m2, h, hr⟩ := h
  refine tt_cv1I hV rfl rfl rfl (Wd_obj (hB _ _ rfl)) (Nat.le_of_ble_eq_true rfl) (Nat.le_of_ble_eq_true rfl) rfl hr (pc' := 5) rfl ?_
  refine tt_istore2 hV rfl rfl (pc' := 6) rfl ?_
  refine tt_iconst hV rfl (pc' := 7) rfl ?_
  refine tt_istore3 hV rfl rfl (pc' := 8) rfl ?_
  exact h
theorem P_readSum_8w {X : Cx} {d : Nat} {x : Int} {l2 : Int} {l3 : Int} {o4 : Option Int} {m : Mm} {Q : Int → Mm → Prop} (hB : Bsh X.2.2.1) (h : (-2147483648 ≤ l3 ∧ l3 < 2147483648) ∧ (240 ≤ l3 → (l2 = 0 ∨ l2 = 1) ∧ Q l2 m) ∧ (l3 < 240 → (-2147483648 ≤ l2 ∧ l2 < 2147483648) ∧ (l2 = 0 → (l2 = 0 ∨ l2 = 1) ∧ Q l2 m) ∧ (l2 ≠ 0 → P_comingSign X d m (fun v20 m20 => (-2147483648 ≤ v20 ∧ v20 < 2147483648) ∧ (v20 = 43 → P_readSum_42 X (d + 1) x l2 l3 v20 m20 Q) ∧ (v20 ≠ 43 → (v20 = 45 → P_readSum_42 X (d + 1) x l2 l3 v20 m20 Q) ∧ (v20 ≠ 45 → (l2 = 0 ∨ l2 = 1) ∧ Q l2 m20)))))) : P_readSum_8 X (d + 1) x l2 l3 o4 m Q := by
  unfold P_readSum_8
  have hV : Clo (gP X.1 X.2.1) (d + 1) 48 5 false (Rq (gP X.1 X.2.1) (d + 1) 48 X.2.2.1 X.2.2.2 Q) := Rq_clo (q := mI48) rfl
  refine r_iload_n hV rfl rfl (pc' := 9) rfl ?_
  refine tt_sipush hV rfl (by decide) (pc' := 12) rfl ?_
  obtain ⟨g1, h⟩ := h
  refine tt_icmp_ge hV rfl g1 (by decide) (pt := 82) (by decide) (pf := 15) rfl (fun hc => ?_) (fun hc => ?_)
  · replace h := h.1 hc
    refine r_iload_n hV rfl rfl (pc' := 83) rfl ?_
    obtain ⟨g2, h⟩ := h
    exact rq_ret (q := mI48) rfl rfl (sR_bool g2) h
  · replace h := h.2 (Int.not_le.mp hc)
    refine r_iload_n hV rfl rfl (pc' := 16) rfl ?_
    obtain ⟨g3, h⟩ := h
    refine tt_if_eq hV rfl g3 (pt := 82) (by decide) (pf := 19) rfl (fun hc => ?_) (fun hc => ?_)
    · replace h := h.1 hc
      refine r_iload_n hV rfl rfl (pc' := 83) rfl ?_
      obtain ⟨g4, h⟩ := h
      exact rq_ret (q := mI48) rfl rfl (sR_bool g4) h
    · replace h := h.2 hc
      refine r_aload_n hV rfl rfl (pc' := 20) rfl ?_
      obtain ⟨v20, m20, h, hr⟩ := h
      refine tt_cv0I hV rfl rfl rfl (Wd_obj (hB _ _ rfl)) (Nat.le_of_ble_eq_true rfl) (Nat.le_of_ble_eq_true rfl) rfl hr (pc' := 23) rfl ?_
      refine tt_istore4 hV rfl rfl (pc' := 25) rfl ?_
      refine r_iload hV rfl rfl (pc' := 27) rfl ?_
      refine tt_bipush hV rfl (by decide) (pc' := 29) rfl ?_
      obtain ⟨g5, h⟩ := h
      refine tt_icmp_eq hV rfl g5 (by decide) (pt := 42) (by decide) (pf := 32) rfl (fun hc => ?_) (fun hc => ?_)
      · replace h := h.1 hc
        exact h
      · replace h := h.2 hc
        refine r_iload hV rfl rfl (pc' := 34) rfl ?_
        refine tt_bipush hV rfl (by decide) (pc' := 36) rfl ?_
        refine tt_icmp_eq hV rfl g5 (by decide) (pt := 42) (by decide) (pf := 39) rfl (fun hc => ?_) (fun hc => ?_)
        · replace h := h.1 hc
          exact h
        · replace h := h.2 hc
          refine r_goto hV rfl (pc' := 82) (by decide) ?_
          refine r_iload_n hV rfl rfl (pc' := 83) rfl ?_
          obtain ⟨g6, h⟩ := h
          exact rq_ret (q := mI48) rfl rfl (sR_bool g6) h
theorem P_readSum_42w {X : Cx} {d : Nat} {x : Int} {l2 : Int} {l3 : Int} {l4 : Int} {m : Mm} {Q : Int → Mm → Prop} (hB : Bsh X.2.2.1) (h : P_readTerm X d x (up m 6 3 (m 6 3 + 1)) (fun v54 m54 => (-2147483648 ≤ l4 ∧ l4 < 2147483648) ∧ (l4 ≠ 43 → P_write X d 6 0 m54 (fun m73 => P_readSum_8 X (d + 1) x v54 (l3 + 1) (some l4) m73 Q)) ∧ (l4 = 43 → P_write X d 5 0 m54 (fun m73 => P_readSum_8 X (d + 1) x v54 (l3 + 1) (some l4) m73 Q)))) : P_readSum_42 X (d + 1) x l2 l3 l4 m Q := by
  unfold P_readSum_42
  have hV : Clo (gP X.1 X.2.1) (d + 1) 48 5 false (Rq (gP X.1 X.2.1) (d + 1) 48 X.2.2.1 X.2.2.2 Q) := Rq_clo (q := mI48) rfl
  refine r_aload_n hV rfl rfl (pc' := 43) rfl ?_
  refine r_dup hV rfl rfl (pc' := 44) rfl ?_
  refine tt_getI hV (tg := 0) (ci := 5) (kf := 3) rfl rfl (by decide) (hB _ _ rfl) rfl (by decide) (pc' := 47) rfl ?_
  refine tt_iconst hV rfl (pc' := 48) rfl ?_
  refine tt_iadd hV rfl (pc' := 49) rfl ?_
  refine tt_putI hV (tg := 0) (ci := 5) (kf := 3) rfl rfl (Or.inl rfl) (hB _ _ rfl) rfl (by decide) rfl (pc' := 52) rfl ?_
  refine r_aload_n hV rfl rfl (pc' := 53) rfl ?_
  refine r_iload_n hV rfl rfl (pc' := 54) rfl ?_
  obtain ⟨v54, m54, h, hr⟩ := h
  refine tt_cv1I hV rfl rfl rfl (Wd_obj (hB _ _ rfl)) (Nat.le_of_ble_eq_true rfl) (Nat.le_of_ble_eq_true rfl) rfl hr (pc' := 57) rfl ?_
  refine tt_istore2 hV rfl rfl (pc' := 58) rfl ?_
  refine r_aload_n hV rfl rfl (pc' := 59) rfl ?_
  refine r_iload hV rfl rfl (pc' := 61) rfl ?_
  refine tt_bipush hV rfl (by decide) (pc' := 63) rfl ?_
  obtain ⟨g7, h⟩ := h
  refine tt_icmp_ne hV rfl g7 (by decide) (pt := 70) (by decide) (pf := 66) rfl (fun hc => ?_) (fun hc => ?_)
  · replace h := h.1 hc
    refine tt_bipush hV rfl (by decide) (pc' := 72) rfl ?_
    refine tt_iconst hV rfl (pc' := 73) rfl ?_
    obtain ⟨m73, h, hr⟩ := h
    refine tt_cv2U hV rfl rfl rfl (Wd_obj (hB _ _ rfl)) (Nat.le_of_ble_eq_true rfl) (Nat.le_of_ble_eq_true rfl) rfl hr (pc' := 76) rfl ?_
    refine tt_iinc3 hV rfl rfl (pc' := 79) rfl ?_
    refine r_goto hV rfl (pc' := 8) (by decide) ?_
    exact h
  · replace h := h.2 (Decidable.not_not.mp hc)
    refine tt_iconst hV rfl (pc' := 67) rfl ?_
    refine r_goto hV rfl (pc' := 72) (by decide) ?_
    refine tt_iconst hV rfl (pc' := 73) rfl ?_
    obtain ⟨m73, h, hr⟩ := h
    refine tt_cv2U hV rfl rfl rfl (Wd_obj (hB _ _ rfl)) (Nat.le_of_ble_eq_true rfl) (Nat.le_of_ble_eq_true rfl) rfl hr (pc' := 76) rfl ?_
    refine tt_iinc3 hV rfl rfl (pc' := 79) rfl ?_
    refine r_goto hV rfl (pc' := 8) (by decide) ?_
    exact h
theorem P_readTermw {X : Cx} {d : Nat} {x : Int} {m : Mm} {Q : Int → Mm → Prop} (hB : Bsh X.2.2.1) (h : P_readAtom X d x m (fun v2 m2 => P_readTerm_8 X (d + 1) x v2 0 none m2 Q)) : P_readTerm X (d + 1) x m Q := by
  unfold P_readTerm
  have hV : Clo (gP X.1 X.2.1) (d + 1) 49 5 false (Rq (gP X.1 X.2.1) (d + 1) 49 X.2.2.1 X.2.2.2 Q) := Rq_clo (q := mI49) rfl
  refine r_aload_n hV rfl rfl (pc' := 1) rfl ?_
  refine r_iload_n hV rfl rfl (pc' := 2) rfl ?_
  obtain ⟨v2, m2, h, hr⟩ := h
  refine tt_cv1I hV rfl rfl rfl (Wd_obj (hB _ _ rfl)) (Nat.le_of_ble_eq_true rfl) (Nat.le_of_ble_eq_true rfl) rfl hr (pc' := 5) rfl ?_
  refine tt_istore2 hV rfl rfl (pc' := 6) rfl ?_
  refine tt_iconst hV rfl (pc' := 7) rfl ?_
  refine tt_istore3 hV rfl rfl (pc' := 8) rfl ?_
  exact h
theorem P_readTerm_8w {X : Cx} {d : Nat} {x : Int} {l2 : Int} {l3 : Int} {o4 : Option Int} {m : Mm} {Q : Int → Mm → Prop} (hB : Bsh X.2.2.1) (h : (-2147483648 ≤ l3 ∧ l3 < 2147483648) ∧ (240 ≤ l3 → (l2 = 0 ∨ l2 = 1) ∧ Q l2 m) ∧ (l3 < 240 → (-2147483648 ≤ l2 ∧ l2 < 2147483648) ∧ (l2 = 0 → (l2 = 0 ∨ l2 = 1) ∧ Q l2 m) ∧ (l2 ≠ 0 → P_comingSign X d m (fun v20 m20 => (-2147483648 ≤ v20 ∧ v20 < 2147483648) ∧ (v20 = 42 → P_readTerm_42 X (d + 1) x l2 l3 v20 m20 Q) ∧ (v20 ≠ 42 → (v20 = 47 → P_readTerm_42 X (d + 1) x l2 l3 v20 m20 Q) ∧ (v20 ≠ 47 → (l2 = 0 ∨ l2 = 1) ∧ Q l2 m20)))))) : P_readTerm_8 X (d + 1) x l2 l3 o4 m Q := by
  unfold P_readTerm_8
  have hV : Clo (gP X.1 X.2.1) (d + 1) 49 5 false (Rq (gP X.1 X.2.1) (d + 1) 49 X.2.2.1 X.2.2.2 Q) := Rq_clo (q := mI49) rfl
  refine r_iload_n hV rfl rfl (pc' := 9) rfl ?_
  refine tt_sipush hV rfl (by decide) (pc' := 12) rfl ?_
  obtain ⟨g1, h⟩ := h
  refine tt_icmp_ge hV rfl g1 (by decide) (pt := 83) (by decide) (pf := 15) rfl (fun hc => ?_) (fun hc => ?_)
  · replace h := h.1 hc
    refine r_iload_n hV rfl rfl (pc' := 84) rfl ?_
    obtain ⟨g2, h⟩ := h
    exact rq_ret (q := mI49) rfl rfl (sR_bool g2) h
  · replace h := h.2 (Int.not_le.mp hc)
    refine r_iload_n hV rfl rfl (pc' := 16) rfl ?_
    obtain ⟨g3, h⟩ := h
    refine tt_if_eq hV rfl g3 (pt := 83) (by decide) (pf := 19) rfl (fun hc => ?_) (fun hc => ?_)
    · replace h := h.1 hc
      refine r_iload_n hV rfl rfl (pc' := 84) rfl ?_
      obtain ⟨g4, h⟩ := h
      exact rq_ret (q := mI49) rfl rfl (sR_bool g4) h
    · replace h := h.2 hc
      refine r_aload_n hV rfl rfl (pc' := 20) rfl ?_
      obtain ⟨v20, m20, h, hr⟩ := h
      refine tt_cv0I hV rfl rfl rfl (Wd_obj (hB _ _ rfl)) (Nat.le_of_ble_eq_true rfl) (Nat.le_of_ble_eq_true rfl) rfl hr (pc' := 23) rfl ?_
      refine tt_istore4 hV rfl rfl (pc' := 25) rfl ?_
      refine r_iload hV rfl rfl (pc' := 27) rfl ?_
      refine tt_bipush hV rfl (by decide) (pc' := 29) rfl ?_
      obtain ⟨g5, h⟩ := h
      refine tt_icmp_eq hV rfl g5 (by decide) (pt := 42) (by decide) (pf := 32) rfl (fun hc => ?_) (fun hc => ?_)
      · replace h := h.1 hc
        exact h
      · replace h := h.2 hc
        refine r_iload hV rfl rfl (pc' := 34) rfl ?_
        refine tt_bipush hV rfl (by decide) (pc' := 36) rfl ?_
        refine tt_icmp_eq hV rfl g5 (by decide) (pt := 42) (by decide) (pf := 39) rfl (fun hc => ?_) (fun hc => ?_)
        · replace h := h.1 hc
          exact h
        · replace h := h.2 hc
          refine r_goto hV rfl (pc' := 83) (by decide) ?_
          refine r_iload_n hV rfl rfl (pc' := 84) rfl ?_
          obtain ⟨g6, h⟩ := h
          exact rq_ret (q := mI49) rfl rfl (sR_bool g6) h
theorem P_readTerm_42w {X : Cx} {d : Nat} {x : Int} {l2 : Int} {l3 : Int} {l4 : Int} {m : Mm} {Q : Int → Mm → Prop} (hB : Bsh X.2.2.1) (h : P_readAtom X d x (up m 6 3 (m 6 3 + 1)) (fun v54 m54 => (-2147483648 ≤ l4 ∧ l4 < 2147483648) ∧ (l4 ≠ 42 → P_write X d 8 0 m54 (fun m74 => P_readTerm_8 X (d + 1) x v54 (l3 + 1) (some l4) m74 Q)) ∧ (l4 = 42 → P_write X d 7 0 m54 (fun m74 => P_readTerm_8 X (d + 1) x v54 (l3 + 1) (some l4) m74 Q)))) : P_readTerm_42 X (d + 1) x l2 l3 l4 m Q := by
  unfold P_readTerm_42
  have hV : Clo (gP X.1 X.2.1) (d + 1) 49 5 false (Rq (gP X.1 X.2.1) (d + 1) 49 X.2.2.1 X.2.2.2 Q) := Rq_clo (q := mI49) rfl
  refine r_aload_n hV rfl rfl (pc' := 43) rfl ?_
  refine r_dup hV rfl rfl (pc' := 44) rfl ?_
  refine tt_getI hV (tg := 0) (ci := 5) (kf := 3) rfl rfl (by decide) (hB _ _ rfl) rfl (by decide) (pc' := 47) rfl ?_
  refine tt_iconst hV rfl (pc' := 48) rfl ?_
  refine tt_iadd hV rfl (pc' := 49) rfl ?_
  refine tt_putI hV (tg := 0) (ci := 5) (kf := 3) rfl rfl (Or.inl rfl) (hB _ _ rfl) rfl (by decide) rfl (pc' := 52) rfl ?_
  refine r_aload_n hV rfl rfl (pc' := 53) rfl ?_
  refine r_iload_n hV rfl rfl (pc' := 54) rfl ?_
  obtain ⟨v54, m54, h, hr⟩ := h
  refine tt_cv1I hV rfl rfl rfl (Wd_obj (hB _ _ rfl)) (Nat.le_of_ble_eq_true rfl) (Nat.le_of_ble_eq_true rfl) rfl hr (pc' := 57) rfl ?_
  refine tt_istore2 hV rfl rfl (pc' := 58) rfl ?_
  refine r_aload_n hV rfl rfl (pc' := 59) rfl ?_
  refine r_iload hV rfl rfl (pc' := 61) rfl ?_
  refine tt_bipush hV rfl (by decide) (pc' := 63) rfl ?_
  obtain ⟨g7, h⟩ := h
  refine tt_icmp_ne hV rfl g7 (by decide) (pt := 71) (by decide) (pf := 66) rfl (fun hc => ?_) (fun hc => ?_)
  · replace h := h.1 hc
    refine tt_bipush hV rfl (by decide) (pc' := 73) rfl ?_
    refine tt_iconst hV rfl (pc' := 74) rfl ?_
    obtain ⟨m74, h, hr⟩ := h
    refine tt_cv2U hV rfl rfl rfl (Wd_obj (hB _ _ rfl)) (Nat.le_of_ble_eq_true rfl) (Nat.le_of_ble_eq_true rfl) rfl hr (pc' := 77) rfl ?_
    refine tt_iinc3 hV rfl rfl (pc' := 80) rfl ?_
    refine r_goto hV rfl (pc' := 8) (by decide) ?_
    exact h
  · replace h := h.2 (Decidable.not_not.mp hc)
    refine tt_bipush hV rfl (by decide) (pc' := 68) rfl ?_
    refine r_goto hV rfl (pc' := 73) (by decide) ?_
    refine tt_iconst hV rfl (pc' := 74) rfl ?_
    obtain ⟨m74, h, hr⟩ := h
    refine tt_cv2U hV rfl rfl rfl (Wd_obj (hB _ _ rfl)) (Nat.le_of_ble_eq_true rfl) (Nat.le_of_ble_eq_true rfl) rfl hr (pc' := 77) rfl ?_
    refine tt_iinc3 hV rfl rfl (pc' := 80) rfl ?_
    refine r_goto hV rfl (pc' := 8) (by decide) ?_
    exact h
theorem P_readAtomw {X : Cx} {d : Nat} {x : Int} {m : Mm} {Q : Int → Mm → Prop} (hB : Bsh X.2.2.1) (hB2 : X.2.2.1.length ≤ 1000000) (h : P_comingSign X d m (fun v1 m1 => (-2147483648 ≤ v1 ∧ v1 < 2147483648) ∧ (v1 ≠ 91 → B_isDigitAt X d (m1 6 3) m1 (fun v62 m62 => (-2147483648 ≤ v62 ∧ v62 < 2147483648) ∧ (v62 = 0 → (v1 ≠ 0 → (0 ≤ v1 ∧ v1 < 65536) ∧ Z_indexOf X d 1000012 v1 m62 (fun v85 m85 => (-2147483648 ≤ v85 ∧ v85 < 2147483648) ∧ (0 ≤ v85 → P_write X d 1 v85 (up m85 6 3 (m85 6 3 + 1)) (fun m108 => Q 1 m108)) ∧ (v85 < 0 → Q 0 m85))) ∧ (v1 = 0 → Q 0 m62)) ∧ (v62 ≠ 0 → P_readNumber X d m62 (fun v69 m69 => (v69 = 0 ∨ v69 = 1) ∧ Q v69 m69)))) ∧ (v1 = 91 → (-2147483648 ≤ x ∧ x < 2147483648) ∧ (x < 6 → P_readSum X d (x + 1) (up m1 6 3 (m1 6 3 + 1)) (fun v33 m33 => (-2147483648 ≤ v33 ∧ v33 < 2147483648) ∧ (v33 = 0 → Q 0 m33) ∧ (v33 ≠ 0 → P_passes X d 93 m33 (fun v42 m42 => (-2147483648 ≤ v42 ∧ v42 < 2147483648) ∧ (v42 = 0 → Q 0 m42) ∧ (v42 ≠ 0 → Q 1 m42))))) ∧ (6 ≤ x → Q 0 m1)))) : P_readAtom X (d + 1) x m Q := by
  unfold P_readAtom
  have hV : Clo (gP X.1 X.2.1) (d + 1) 50 4 false (Rq (gP X.1 X.2.1) (d + 1) 50 X.2.2.1 X.2.2.2 Q) := Rq_clo (q := mI50) rfl
  refine r_aload_n hV rfl rfl (pc' := 1) rfl ?_
  obtain ⟨v1, m1, h, hr⟩ := h
  refine tt_cv0I hV rfl rfl rfl (Wd_obj (hB _ _ rfl)) (Nat.le_of_ble_eq_true rfl) (Nat.le_of_ble_eq_true rfl) rfl hr (pc' := 4) rfl ?_
  refine tt_istore2 hV rfl rfl (pc' := 5) rfl ?_
  refine r_iload_n hV rfl rfl (pc' := 6) rfl ?_
  refine tt_bipush hV rfl (by decide) (pc' := 8) rfl ?_
  obtain ⟨g1, h⟩ := h
  refine tt_icmp_ne hV rfl g1 (by decide) (pt := 54) (by decide) (pf := 11) rfl (fun hc => ?_) (fun hc => ?_)
  · replace h := h.1 hc
    refine r_aload_n hV rfl rfl (pc' := 55) rfl ?_
    refine tt_getR hV (tg := 6) (ci := 5) (kf := 0) rfl rfl (by decide) (hB _ _ rfl) rfl (by decide) (pc' := 58) rfl ?_
    refine r_aload_n hV rfl rfl (pc' := 59) rfl ?_
    refine tt_getI hV (tg := 0) (ci := 5) (kf := 3) rfl rfl (by decide) (hB _ _ rfl) rfl (by decide) (pc' := 62) rfl ?_
    obtain ⟨v62, m62, h, hr⟩ := h
    refine tt_cv1I hV rfl rfl rfl (Wd_obj (hB _ _ rfl)) (Nat.le_of_ble_eq_true rfl) (Nat.le_of_ble_eq_true rfl) rfl hr (pc' := 65) rfl ?_
    obtain ⟨g2, h⟩ := h
    refine tt_if_eq hV rfl g2 (pt := 73) (by decide) (pf := 68) rfl (fun hc => ?_) (fun hc => ?_)
    · replace h := h.1 hc
      refine r_iload_n hV rfl rfl (pc' := 74) rfl ?_
      refine tt_if_ne hV rfl g1 (pt := 81) (by decide) (pf := 77) rfl (fun hc => ?_) (fun hc => ?_)
      · replace h := h.1 hc
        refine r_ldcS hV rfl rfl (pc' := 83) rfl ?_
        refine r_iload_n hV rfl rfl (pc' := 84) rfl ?_
        obtain ⟨g3, h⟩ := h
        refine tt_i2c hV rfl g3 (pc' := 85) rfl ?_
        obtain ⟨v85, m85, h, hr⟩ := h
        refine q_cx1I hV rfl rfl rfl hB2 rfl rfl (Nat.le_of_ble_eq_true rfl) (Nat.le_of_ble_eq_true rfl) rfl hr (pc' := 88) rfl ?_
        refine tt_istore3 hV rfl rfl (pc' := 89) rfl ?_
        refine r_iload_n hV rfl rfl (pc' := 90) rfl ?_
        obtain ⟨g4, h⟩ := h
        refine tt_if_ge hV rfl g4 (pt := 95) (by decide) (pf := 93) rfl (fun hc => ?_) (fun hc => ?_)
        · replace h := h.1 hc
          refine r_aload_n hV rfl rfl (pc' := 96) rfl ?_
          refine r_dup hV rfl rfl (pc' := 97) rfl ?_
          refine tt_getI hV (tg := 0) (ci := 5) (kf := 3) rfl rfl (by decide) (hB _ _ rfl) rfl (by decide) (pc' := 100) rfl ?_
          refine tt_iconst hV rfl (pc' := 101) rfl ?_
          refine tt_iadd hV rfl (pc' := 102) rfl ?_
          refine tt_putI hV (tg := 0) (ci := 5) (kf := 3) rfl rfl (Or.inl rfl) (hB _ _ rfl) rfl (by decide) rfl (pc' := 105) rfl ?_
          refine r_aload_n hV rfl rfl (pc' := 106) rfl ?_
          refine tt_iconst hV rfl (pc' := 107) rfl ?_
          refine r_iload_n hV rfl rfl (pc' := 108) rfl ?_
          obtain ⟨m108, h, hr⟩ := h
          refine tt_cv2U hV rfl rfl rfl (Wd_obj (hB _ _ rfl)) (Nat.le_of_ble_eq_true rfl) (Nat.le_of_ble_eq_true rfl) rfl hr (pc' := 111) rfl ?_
          refine tt_iconst hV rfl (pc' := 112) rfl ?_
          exact rq_ret (q := mI50) rfl rfl rfl h
        · replace h := h.2 (Int.not_le.mp hc)
          refine tt_iconst hV rfl (pc' := 94) rfl ?_
          exact rq_ret (q := mI50) rfl rfl rfl h
      · replace h := h.2 (Decidable.not_not.mp hc)
        refine tt_iconst hV rfl (pc' := 78) rfl ?_
        refine r_goto hV rfl (pc' := 88) (by decide) ?_
        refine tt_istore3 hV rfl rfl (pc' := 89) rfl ?_
        refine r_iload_n hV rfl rfl (pc' := 90) rfl ?_
        refine tt_if_ge hV rfl (by decide) (pt := 95) (by decide) (pf := 93) rfl (fun hc => absurd hc (by decide)) (fun hc => ?_)
        clear hc
        refine tt_iconst hV rfl (pc' := 94) rfl ?_
        exact rq_ret (q := mI50) rfl rfl rfl h
    · replace h := h.2 hc
      refine r_aload_n hV rfl rfl (pc' := 69) rfl ?_
      obtain ⟨v69, m69, h, hr⟩ := h
      refine tt_cv0I hV rfl rfl rfl (Wd_obj (hB _ _ rfl)) (Nat.le_of_ble_eq_true rfl) (Nat.le_of_ble_eq_true rfl) rfl hr (pc' := 72) rfl ?_
      obtain ⟨g5, h⟩ := h
      exact rq_ret (q := mI50) rfl rfl (sR_bool g5) h
  · replace h := h.2 (Decidable.not_not.mp hc)
    refine r_iload_n hV rfl rfl (pc' := 12) rfl ?_
    refine tt_bipush hV rfl (by decide) (pc' := 14) rfl ?_
    obtain ⟨g6, h⟩ := h
    refine tt_icmp_lt hV rfl g6 (by decide) (pt := 19) (by decide) (pf := 17) rfl (fun hc => ?_) (fun hc => ?_)
    · replace h := h.1 hc
      refine r_aload_n hV rfl rfl (pc' := 20) rfl ?_
      refine r_dup hV rfl rfl (pc' := 21) rfl ?_
      refine tt_getI hV (tg := 0) (ci := 5) (kf := 3) rfl rfl (by decide) (hB _ _ rfl) rfl (by decide) (pc' := 24) rfl ?_
      refine tt_iconst hV rfl (pc' := 25) rfl ?_
      refine tt_iadd hV rfl (pc' := 26) rfl ?_
      refine tt_putI hV (tg := 0) (ci := 5) (kf := 3) rfl rfl (Or.inl rfl) (hB _ _ rfl) rfl (by decide) rfl (pc' := 29) rfl ?_
      refine r_aload_n hV rfl rfl (pc' := 30) rfl ?_
      refine r_iload_n hV rfl rfl (pc' := 31) rfl ?_
      refine tt_iconst hV rfl (pc' := 32) rfl ?_
      refine tt_iadd hV rfl (pc' := 33) rfl ?_
      obtain ⟨v33, m33, h, hr⟩ := h
      refine tt_cv1I hV rfl rfl rfl (Wd_obj (hB _ _ rfl)) (Nat.le_of_ble_eq_true rfl) (Nat.le_of_ble_eq_true rfl) rfl hr (pc' := 36) rfl ?_
      obtain ⟨g7, h⟩ := h
      refine tt_if_eq hV rfl g7 (pt := 52) (by decide) (pf := 39) rfl (fun hc => ?_) (fun hc => ?_)
      · replace h := h.1 hc
        refine tt_iconst hV rfl (pc' := 53) rfl ?_
        exact rq_ret (q := mI50) rfl rfl rfl h
      · replace h := h.2 hc
        refine r_aload_n hV rfl rfl (pc' := 40) rfl ?_
        refine tt_bipush hV rfl (by decide) (pc' := 42) rfl ?_
        obtain ⟨v42, m42, h, hr⟩ := h
        refine tt_cv1I hV rfl rfl rfl (Wd_obj (hB _ _ rfl)) (Nat.le_of_ble_eq_true rfl) (Nat.le_of_ble_eq_true rfl) rfl hr (pc' := 45) rfl ?_
        obtain ⟨g8, h⟩ := h
        refine tt_if_eq hV rfl g8 (pt := 52) (by decide) (pf := 48) rfl (fun hc => ?_) (fun hc => ?_)
        · replace h := h.1 hc
          refine tt_iconst hV rfl (pc' := 53) rfl ?_
          exact rq_ret (q := mI50) rfl rfl rfl h
        · replace h := h.2 hc
          refine tt_iconst hV rfl (pc' := 49) rfl ?_
          refine r_goto hV rfl (pc' := 53) (by decide) ?_
          exact rq_ret (q := mI50) rfl rfl rfl h
    · replace h := h.2 (Int.not_lt.mp hc)
      refine tt_iconst hV rfl (pc' := 18) rfl ?_
      exact rq_ret (q := mI50) rfl rfl rfl h
theorem P_readNumberw {X : Cx} {d : Nat} {m : Mm} {Q : Int → Mm → Prop} (hB : Bsh X.2.2.1) (h : P_readNumber_4 X (d + 1) 0 0 m Q) : P_readNumber X (d + 1) m Q := by
  unfold P_readNumber
  have hV : Clo (gP X.1 X.2.1) (d + 1) 51 3 false (Rq (gP X.1 X.2.1) (d + 1) 51 X.2.2.1 X.2.2.2 Q) := Rq_clo (q := mI51) rfl
  refine tt_iconst hV rfl (pc' := 1) rfl ?_
  refine tt_istore1 hV rfl rfl (pc' := 2) rfl ?_
  refine tt_iconst hV rfl (pc' := 3) rfl ?_
  refine tt_istore2 hV rfl rfl (pc' := 4) rfl ?_
  exact h
theorem P_readNumber_4w {X : Cx} {d : Nat} {l1 : Int} {l2 : Int} {m : Mm} {Q : Int → Mm → Prop} (hB : Bsh X.2.2.1) (h : (-2147483648 ≤ l2 ∧ l2 < 2147483648) ∧ (4 ≤ l2 → P_readNumber_59 X (d + 1) l1 l2 m Q) ∧ (l2 < 4 → B_isDigitAt X d (m 6 3) m (fun v17 m17 => (-2147483648 ≤ v17 ∧ v17 < 2147483648) ∧ (v17 = 0 → P_readNumber_59 X (d + 1) l1 l2 m17 Q) ∧ (v17 ≠ 0 → B_signAt X d (m17 6 3) m17 (fun v35 m35 => P_readNumber_4 X (d + 1) (10 * l1 + v35 - 48) (l2 + 1) (up m35 6 3 (m35 6 3 + 1)) Q))))) : P_readNumber_4 X (d + 1) l1 l2 m Q := by
  unfold P_readNumber_4
  have hV : Clo (gP X.1 X.2.1) (d + 1) 51 3 false (Rq (gP X.1 X.2.1) (d + 1) 51 X.2.2.1 X.2.2.2 Q) := Rq_clo (q := mI51) rfl
  refine r_iload_n hV rfl rfl (pc' := 5) rfl ?_
  refine tt_iconst hV rfl (pc' := 6) rfl ?_
  obtain ⟨g1, h⟩ := h
  refine tt_icmp_ge hV rfl g1 (by decide) (pt := 59) (by decide) (pf := 9) rfl (fun hc => ?_) (fun hc => ?_)
  · replace h := h.1 hc
    exact h
  · replace h := h.2 (Int.not_le.mp hc)
    refine r_aload_n hV rfl rfl (pc' := 10) rfl ?_
    refine tt_getR hV (tg := 6) (ci := 5) (kf := 0) rfl rfl (by decide) (hB _ _ rfl) rfl (by decide) (pc' := 13) rfl ?_
    refine r_aload_n hV rfl rfl (pc' := 14) rfl ?_
    refine tt_getI hV (tg := 0) (ci := 5) (kf := 3) rfl rfl (by decide) (hB _ _ rfl) rfl (by decide) (pc' := 17) rfl ?_
    obtain ⟨v17, m17, h, hr⟩ := h
    refine tt_cv1I hV rfl rfl rfl (Wd_obj (hB _ _ rfl)) (Nat.le_of_ble_eq_true rfl) (Nat.le_of_ble_eq_true rfl) rfl hr (pc' := 20) rfl ?_
    obtain ⟨g2, h⟩ := h
    refine tt_if_eq hV rfl g2 (pt := 59) (by decide) (pf := 23) rfl (fun hc => ?_) (fun hc => ?_)
    · replace h := h.1 hc
      exact h
    · replace h := h.2 hc
      refine r_iload_n hV rfl rfl (pc' := 24) rfl ?_
      refine tt_bipush hV rfl (by decide) (pc' := 26) rfl ?_
      refine tt_imul hV rfl (pc' := 27) rfl ?_
      refine vtI (y := 10 * l1) (by clear h; omega) ?_
      refine r_aload_n hV rfl rfl (pc' := 28) rfl ?_
      refine tt_getR hV (tg := 6) (ci := 5) (kf := 0) rfl rfl (by decide) (hB _ _ rfl) rfl (by decide) (pc' := 31) rfl ?_
      refine r_aload_n hV rfl rfl (pc' := 32) rfl ?_
      refine tt_getI hV (tg := 0) (ci := 5) (kf := 3) rfl rfl (by decide) (hB _ _ rfl) rfl (by decide) (pc' := 35) rfl ?_
      obtain ⟨v35, m35, h, hr⟩ := h
      refine tt_cv1I hV rfl rfl rfl (Wd_obj (hB _ _ rfl)) (Nat.le_of_ble_eq_true rfl) (Nat.le_of_ble_eq_true rfl) rfl hr (pc' := 38) rfl ?_
      refine tt_iadd hV rfl (pc' := 39) rfl ?_
      refine tt_bipush hV rfl (by decide) (pc' := 41) rfl ?_
      refine tt_isub hV rfl (pc' := 42) rfl ?_
      refine tt_istore1 hV rfl rfl (pc' := 43) rfl ?_
      refine r_aload_n hV rfl rfl (pc' := 44) rfl ?_
      refine r_dup hV rfl rfl (pc' := 45) rfl ?_
      refine tt_getI hV (tg := 0) (ci := 5) (kf := 3) rfl rfl (by decide) (hB _ _ rfl) rfl (by decide) (pc' := 48) rfl ?_
      refine tt_iconst hV rfl (pc' := 49) rfl ?_
      refine tt_iadd hV rfl (pc' := 50) rfl ?_
      refine tt_putI hV (tg := 0) (ci := 5) (kf := 3) rfl rfl (Or.inl rfl) (hB _ _ rfl) rfl (by decide) rfl (pc' := 53) rfl ?_
      refine tt_iinc2 hV rfl rfl (pc' := 56) rfl ?_
      refine r_goto hV rfl (pc' := 4) (by decide) ?_
      exact h
theorem P_readNumber_59w {X : Cx} {d : Nat} {l1 : Int} {l2 : Int} {m : Mm} {Q : Int → Mm → Prop} (hB : Bsh X.2.2.1) (h : P_write X d 0 l1 m (fun m62 => B_isDigitAt X d (m62 6 3) m62 (fun v73 m73 => (-2147483648 ≤ v73 ∧ v73 < 2147483648) ∧ (v73 ≠ 0 → Q 0 m73) ∧ (v73 = 0 → Q 1 m73)))) : P_readNumber_59 X (d + 1) l1 l2 m Q := by
  unfold P_readNumber_59
  have hV : Clo (gP X.1 X.2.1) (d + 1) 51 3 false (Rq (gP X.1 X.2.1) (d + 1) 51 X.2.2.1 X.2.2.2 Q) := Rq_clo (q := mI51) rfl
  refine r_aload_n hV rfl rfl (pc' := 60) rfl ?_
  refine tt_iconst hV rfl (pc' := 61) rfl ?_
  refine r_iload_n hV rfl rfl (pc' := 62) rfl ?_
  obtain ⟨m62, h, hr⟩ := h
  refine tt_cv2U hV rfl rfl rfl (Wd_obj (hB _ _ rfl)) (Nat.le_of_ble_eq_true rfl) (Nat.le_of_ble_eq_true rfl) rfl hr (pc' := 65) rfl ?_
  refine r_aload_n hV rfl rfl (pc' := 66) rfl ?_
  refine tt_getR hV (tg := 6) (ci := 5) (kf := 0) rfl rfl (by decide) (hB _ _ rfl) rfl (by decide) (pc' := 69) rfl ?_
  refine r_aload_n hV rfl rfl (pc' := 70) rfl ?_
  refine tt_getI hV (tg := 0) (ci := 5) (kf := 3) rfl rfl (by decide) (hB _ _ rfl) rfl (by decide) (pc' := 73) rfl ?_
  obtain ⟨v73, m73, h, hr⟩ := h
  refine tt_cv1I hV rfl rfl rfl (Wd_obj (hB _ _ rfl)) (Nat.le_of_ble_eq_true rfl) (Nat.le_of_ble_eq_true rfl) rfl hr (pc' := 76) rfl ?_
  obtain ⟨g3, h⟩ := h
  refine tt_if_ne hV rfl g3 (pt := 83) (by decide) (pf := 79) rfl (fun hc => ?_) (fun hc => ?_)
  · replace h := h.1 hc
    refine tt_iconst hV rfl (pc' := 84) rfl ?_
    exact rq_ret (q := mI51) rfl rfl rfl h
  · replace h := h.2 (Decidable.not_not.mp hc)
    refine tt_iconst hV rfl (pc' := 80) rfl ?_
    refine r_goto hV rfl (pc' := 84) (by decide) ?_
    exact rq_ret (q := mI51) rfl rfl rfl h
theorem O_atEndw {X : Cx} {d : Nat} {x : Int} {m : Mm} {Q : Int → Mm → Prop} (hB : Bsh X.2.2.1) (h : T_copy X d 69 17 m (fun m5 => S_sideAtEnd X d 69 m5 (fun v16 m16 => (-2147483648 ≤ x ∧ x < 2147483648) ∧ (x ≠ 0 → (x ≠ 1 → S_everyone X d m16 (fun v45 m45 => Q ((iA v45 ((iX (m45 69 4) (-1))))) m45)) ∧ (x = 1 → Q v16 m16)) ∧ (x = 0 → Q (m16 69 8) m16)))) : O_atEnd X (d + 1) x m Q := by
  unfold O_atEnd
  have hV : Clo (gP X.1 X.2.1) (d + 1) 53 4 false (Rq (gP X.1 X.2.1) (d + 1) 53 X.2.2.1 X.2.2.2 Q) := Rq_clo (q := mI53) rfl
  refine r_aload_n hV rfl rfl (pc' := 1) rfl ?_
  refine tt_getR hV (tg := 6) (ci := 6) (kf := 4) rfl rfl (by decide) (hB _ _ rfl) rfl (by decide) (pc' := 4) rfl ?_
  refine r_aload_n hV rfl rfl (pc' := 5) rfl ?_
  obtain ⟨m5, h, hr⟩ := h
  refine tt_cv1U hV rfl rfl rfl (Wd_obj (hB _ _ rfl)) (Nat.le_of_ble_eq_true rfl) (Nat.le_of_ble_eq_true rfl) rfl hr (pc' := 8) rfl ?_
  refine r_aload_n hV rfl rfl (pc' := 9) rfl ?_
  refine tt_getR hV (tg := 6) (ci := 6) (kf := 3) rfl rfl (by decide) (hB _ _ rfl) rfl (by decide) (pc' := 12) rfl ?_
  refine r_aload_n hV rfl rfl (pc' := 13) rfl ?_
  refine tt_getR hV (tg := 6) (ci := 6) (kf := 4) rfl rfl (by decide) (hB _ _ rfl) rfl (by decide) (pc' := 16) rfl ?_
  obtain ⟨v16, m16, h, hr⟩ := h
  refine tt_cv1I hV rfl rfl rfl (Wd_obj (hB _ _ rfl)) (Nat.le_of_ble_eq_true rfl) (Nat.le_of_ble_eq_true rfl) rfl hr (pc' := 19) rfl ?_
  refine tt_istore3 hV rfl rfl (pc' := 20) rfl ?_
  refine r_iload_n hV rfl rfl (pc' := 21) rfl ?_
  obtain ⟨g1, h⟩ := h
  refine tt_if_ne hV rfl g1 (pt := 32) (by decide) (pf := 24) rfl (fun hc => ?_) (fun hc => ?_)
  · replace h := h.1 hc
    refine r_iload_n hV rfl rfl (pc' := 33) rfl ?_
    refine tt_iconst hV rfl (pc' := 34) rfl ?_
    refine tt_icmp_ne hV rfl g1 (by decide) (pt := 41) (by decide) (pf := 37) rfl (fun hc => ?_) (fun hc => ?_)
    · replace h := h.1 hc
      refine r_aload_n hV rfl rfl (pc' := 42) rfl ?_
      refine tt_getR hV (tg := 6) (ci := 6) (kf := 3) rfl rfl (by decide) (hB _ _ rfl) rfl (by decide) (pc' := 45) rfl ?_
      obtain ⟨v45, m45, h, hr⟩ := h
      refine tt_cv0I hV rfl rfl rfl (Wd_obj (hB _ _ rfl)) (Nat.le_of_ble_eq_true rfl) (Nat.le_of_ble_eq_true rfl) rfl hr (pc' := 48) rfl ?_
      refine r_aload_n hV rfl rfl (pc' := 49) rfl ?_
      refine tt_getR hV (tg := 6) (ci := 6) (kf := 4) rfl rfl (by decide) (hB _ _ rfl) rfl (by decide) (pc' := 52) rfl ?_
      refine tt_getI hV (tg := 0) (ci := 8) (kf := 4) rfl rfl (by decide) (hB _ _ rfl) rfl (by decide) (pc' := 55) rfl ?_
      refine tt_iconst hV rfl (pc' := 56) rfl ?_
      refine tt_ixor hV rfl (pc' := 57) rfl ?_
      refine tt_iand hV rfl (pc' := 58) rfl ?_
      exact rq_ret (q := mI53) rfl rfl rfl h
    · replace h := h.2 (Decidable.not_not.mp hc)
      refine r_iload_n hV rfl rfl (pc' := 38) rfl ?_
      refine r_goto hV rfl (pc' := 58) (by decide) ?_
      exact rq_ret (q := mI53) rfl rfl rfl h
  · replace h := h.2 (Decidable.not_not.mp hc)
    refine r_aload_n hV rfl rfl (pc' := 25) rfl ?_
    refine tt_getR hV (tg := 6) (ci := 6) (kf := 4) rfl rfl (by decide) (hB _ _ rfl) rfl (by decide) (pc' := 28) rfl ?_
    refine tt_getI hV (tg := 0) (ci := 8) (kf := 8) rfl rfl (by decide) (hB _ _ rfl) rfl (by decide) (pc' := 31) rfl ?_
    exact rq_ret (q := mI53) rfl rfl rfl h
theorem O_columnAfterw {X : Cx} {d : Nat} {x : Int} {m : Mm} {Q : Int → Mm → Prop} (hB : Bsh X.2.2.1) (h : T_copy X d 69 17 m (fun m5 => O_columnAfter_10 X (d + 1) x 0 m5 Q)) : O_columnAfter X (d + 1) x m Q := by
  unfold O_columnAfter
  have hV : Clo (gP X.1 X.2.1) (d + 1) 54 4 false (Rq (gP X.1 X.2.1) (d + 1) 54 X.2.2.1 X.2.2.2 Q) := Rq_clo (q := mI54) rfl
  refine r_aload_n hV rfl rfl (pc' := 1) rfl ?_
  refine tt_getR hV (tg := 6) (ci := 6) (kf := 4) rfl rfl (by decide) (hB _ _ rfl) rfl (by decide) (pc' := 4) rfl ?_
  refine r_aload_n hV rfl rfl (pc' := 5) rfl ?_
  obtain ⟨m5, h, hr⟩ := h
  refine tt_cv1U hV rfl rfl rfl (Wd_obj (hB _ _ rfl)) (Nat.le_of_ble_eq_true rfl) (Nat.le_of_ble_eq_true rfl) rfl hr (pc' := 8) rfl ?_
  refine tt_iconst hV rfl (pc' := 9) rfl ?_
  refine tt_istore3 hV rfl rfl (pc' := 10) rfl ?_
  exact h
theorem O_columnAfter_10w {X : Cx} {d : Nat} {x : Int} {l3 : Int} {m : Mm} {Q : Int → Mm → Prop} (hB : Bsh X.2.2.1) (h : (-2147483648 ≤ l3 ∧ l3 < 2147483648) ∧ (-2147483648 ≤ x ∧ x < 2147483648) ∧ (x ≤ l3 → Q (m 69 8) m) ∧ (l3 < x → ∃ c : Nat, cO c ∧ (m 18 0 = (c : Int)) ∧ K_lastRow X d c m (fun v29 m29 => (-2147483648 ≤ (m 69 7) ∧ (m 69 7) < 2147483648) ∧ (-2147483648 ≤ v29 ∧ v29 < 2147483648) ∧ (v29 ≤ m 69 7 → Q (m29 69 8) m29) ∧ (m 69 7 < v29 → S_step X d 69 m29 (fun m43 => O_columnAfter_10 X (d + 1) x (l3 + 1) m43 Q))))) : O_columnAfter_10 X (d + 1) x l3 m Q := by
  unfold O_columnAfter_10
  have hV : Clo (gP X.1 X.2.1) (d + 1) 54 4 false (Rq (gP X.1 X.2.1) (d + 1) 54 X.2.2.1 X.2.2.2 Q) := Rq_clo (q := mI54) rfl
  refine r_iload_n hV rfl rfl (pc' := 11) rfl ?_
  refine r_iload_n hV rfl rfl (pc' := 12) rfl ?_
  obtain ⟨g1, h⟩ := h
  obtain ⟨g2, h⟩ := h
  refine tt_icmp_ge hV rfl g1 g2 (pt := 52) (by decide) (pf := 15) rfl (fun hc => ?_) (fun hc => ?_)
  · replace h := h.1 hc
    refine r_aload_n hV rfl rfl (pc' := 53) rfl ?_
    refine tt_getR hV (tg := 6) (ci := 6) (kf := 4) rfl rfl (by decide) (hB _ _ rfl) rfl (by decide) (pc' := 56) rfl ?_
    refine tt_getI hV (tg := 0) (ci := 8) (kf := 8) rfl rfl (by decide) (hB _ _ rfl) rfl (by decide) (pc' := 59) rfl ?_
    exact rq_ret (q := mI54) rfl rfl rfl h
  · replace h := h.2 (Int.not_le.mp hc)
    refine r_aload_n hV rfl rfl (pc' := 16) rfl ?_
    refine tt_getR hV (tg := 6) (ci := 6) (kf := 4) rfl rfl (by decide) (hB _ _ rfl) rfl (by decide) (pc' := 19) rfl ?_
    refine tt_getI hV (tg := 0) (ci := 8) (kf := 7) rfl rfl (by decide) (hB _ _ rfl) rfl (by decide) (pc' := 22) rfl ?_
    refine r_aload_n hV rfl rfl (pc' := 23) rfl ?_
    refine tt_getR hV (tg := 6) (ci := 6) (kf := 3) rfl rfl (by decide) (hB _ _ rfl) rfl (by decide) (pc' := 26) rfl ?_
    obtain ⟨c, hc, h⟩ := h
    have hcs := csh_of hB hc
    obtain ⟨g3, h⟩ := h
    refine tt_getP hV (tg := 0) (ci := 7) (kf := 0) rfl rfl (by decide) (hB _ _ rfl) rfl (by decide) (b := c) g3 (pc' := 29) rfl ?_
    obtain ⟨v29, m29, h, hr⟩ := h
    refine tt_cv0I hV rfl rfl rfl (Wd_obj hcs.1) (Nat.le_of_ble_eq_true rfl) (Nat.le_of_ble_eq_true rfl) rfl hr (pc' := 32) rfl ?_
    obtain ⟨g4, h⟩ := h
    obtain ⟨g5, h⟩ := h
    refine tt_icmp_ge hV rfl g4 g5 (pt := 52) (by decide) (pf := 35) rfl (fun hc => ?_) (fun hc => ?_)
    · replace h := h.1 hc
      refine r_aload_n hV rfl rfl (pc' := 53) rfl ?_
      refine tt_getR hV (tg := 6) (ci := 6) (kf := 4) rfl rfl (by decide) (hB _ _ rfl) rfl (by decide) (pc' := 56) rfl ?_
      refine tt_getI hV (tg := 0) (ci := 8) (kf := 8) rfl rfl (by decide) (hB _ _ rfl) rfl (by decide) (pc' := 59) rfl ?_
      exact rq_ret (q := mI54) rfl rfl rfl h
    · replace h := h.2 (Int.not_le.mp hc)
      refine r_aload_n hV rfl rfl (pc' := 36) rfl ?_
      refine tt_getR hV (tg := 6) (ci := 6) (kf := 3) rfl rfl (by decide) (hB _ _ rfl) rfl (by decide) (pc' := 39) rfl ?_
      refine r_aload_n hV rfl rfl (pc' := 40) rfl ?_
      refine tt_getR hV (tg := 6) (ci := 6) (kf := 4) rfl rfl (by decide) (hB _ _ rfl) rfl (by decide) (pc' := 43) rfl ?_
      obtain ⟨m43, h, hr⟩ := h
      refine tt_cv1U hV rfl rfl rfl (Wd_obj (hB _ _ rfl)) (Nat.le_of_ble_eq_true rfl) (Nat.le_of_ble_eq_true rfl) rfl hr (pc' := 46) rfl ?_
      refine tt_iinc3 hV rfl rfl (pc' := 49) rfl ?_
      refine r_goto hV rfl (pc' := 10) (by decide) ?_
      exact h
theorem O_searchLeansw {X : Cx} {d : Nat} {x : Int} {m : Mm} {Q : Mm → Prop} (hB : Bsh X.2.2.1) (h : ∃ c : Nat, cO c ∧ (m 18 0 = (c : Int)) ∧ O_searchLeans_17 X (d + 1) x (m c 4) 1 0 m Q) : O_searchLeans X (d + 1) x m Q := by
  unfold O_searchLeans
  have hV : Clo (gP X.1 X.2.1) (d + 1) 55 8 false (Ru0 (gP X.1 X.2.1) (d + 1) 55 X.2.2.1 X.2.2.2 Q) := Ru0_clo (q := mI55) rfl
  refine r_aload_n hV rfl rfl (pc' := 1) rfl ?_
  refine tt_getR hV (tg := 6) (ci := 6) (kf := 3) rfl rfl (by decide) (hB _ _ rfl) rfl (by decide) (pc' := 4) rfl ?_
  obtain ⟨c, hc, h⟩ := h
  have hcs := csh_of hB hc
  obtain ⟨g1, h⟩ := h
  refine tt_getP hV (tg := 0) (ci := 7) (kf := 0) rfl rfl (by decide) (hB _ _ rfl) rfl (by decide) (b := c) g1 (pc' := 7) rfl ?_
  refine tt_getI hV (tg := 0) (ci := 0) (kf := 4) rfl rfl (by decide) hcs.1 rfl (by decide) (pc' := 10) rfl ?_
  refine tt_istore3 hV rfl rfl (pc' := 11) rfl ?_
  refine tt_iconst hV rfl (pc' := 12) rfl ?_
  refine tt_istore4 hV rfl rfl (pc' := 14) rfl ?_
  refine tt_iconst hV rfl (pc' := 15) rfl ?_
  refine tt_istore5 hV rfl rfl (pc' := 17) rfl ?_
  exact h
theorem O_searchLeans_17w {X : Cx} {d : Nat} {x : Int} {l3 : Int} {l4 : Int} {l5 : Int} {m : Mm} {Q : Mm → Prop} (hB : Bsh X.2.2.1) (h : (-2147483648 ≤ l5 ∧ l5 < 2147483648) ∧ (-2147483648 ≤ l3 ∧ l3 < 2147483648) ∧ (l3 ≤ l5 → O_searchLeans_48 X (d + 1) x l3 l4 0 none none (up (up m 66 1 (-1)) 66 2 (-1)) Q) ∧ (l5 < l3 → O_searchLeans_17 X (d + 1) x l3 (3 * l4) (l5 + 1) m Q)) : O_searchLeans_17 X (d + 1) x l3 l4 l5 m Q := by
  unfold O_searchLeans_17
  have hV : Clo (gP X.1 X.2.1) (d + 1) 55 8 false (Ru0 (gP X.1 X.2.1) (d + 1) 55 X.2.2.1 X.2.2.2 Q) := Ru0_clo (q := mI55) rfl
  refine r_iload hV rfl rfl (pc' := 19) rfl ?_
  refine r_iload_n hV rfl rfl (pc' := 20) rfl ?_
  obtain ⟨g2, h⟩ := h
  obtain ⟨g3, h⟩ := h
  refine tt_icmp_ge hV rfl g2 g3 (pt := 35) (by decide) (pf := 23) rfl (fun hc => ?_) (fun hc => ?_)
  · replace h := h.1 hc
    refine r_aload_n hV rfl rfl (pc' := 36) rfl ?_
    refine tt_iconst hV rfl (pc' := 37) rfl ?_
    refine tt_putI hV (tg := 0) (ci := 6) (kf := 1) rfl rfl (Or.inl rfl) (hB _ _ rfl) rfl (by decide) rfl (pc' := 40) rfl ?_
    refine r_aload_n hV rfl rfl (pc' := 41) rfl ?_
    refine tt_iconst hV rfl (pc' := 42) rfl ?_
    refine tt_putI hV (tg := 0) (ci := 6) (kf := 2) rfl rfl (Or.inl rfl) (hB _ _ rfl) rfl (by decide) rfl (pc' := 45) rfl ?_
    refine tt_iconst hV rfl (pc' := 46) rfl ?_
    refine tt_istore5 hV rfl rfl (pc' := 48) rfl ?_
    exact h
  · replace h := h.2 (Int.not_le.mp hc)
    refine r_iload hV rfl rfl (pc' := 25) rfl ?_
    refine tt_iconst hV rfl (pc' := 26) rfl ?_
    refine tt_imul hV rfl (pc' := 27) rfl ?_
    refine vtI (y := 3 * l4) (by clear h; omega) ?_
    refine tt_istore4 hV rfl rfl (pc' := 29) rfl ?_
    refine tt_iinc5 hV rfl rfl (pc' := 32) rfl ?_
    refine r_goto hV rfl (pc' := 17) (by decide) ?_
    exact h
theorem O_searchLeans_48w {X : Cx} {d : Nat} {x : Int} {l3 : Int} {l4 : Int} {l5 : Int} {o6 : Option Int} {o7 : Option Int} {m : Mm} {Q : Mm → Prop} (hB : Bsh X.2.2.1) (h : (-2147483648 ≤ l5 ∧ l5 < 2147483648) ∧ (-2147483648 ≤ l4 ∧ l4 < 2147483648) ∧ (l4 ≤ l5 → Q m) ∧ (l5 < l4 → O_leansOf X d l5 l3 m (fun v58 m58 => O_countUnlike X d v58 (m58 17 1) l3 m58 (fun v70 m70 => (-2147483648 ≤ (m70 66 1) ∧ (m70 66 1) < 2147483648) ∧ (m70 66 1 = -1 → O_searchLeans_92 X (d + 1) x l3 l4 l5 v58 v70 m70 Q) ∧ (m70 66 1 ≠ -1 → (-2147483648 ≤ v70 ∧ v70 < 2147483648) ∧ (m70 66 1 ≤ v70 → O_searchLeans_48 X (d + 1) x l3 l4 (l5 + 1) (some v58) (some v70) m70 Q) ∧ (v70 < m70 66 1 → O_searchLeans_92 X (d + 1) x l3 l4 l5 v58 v70 m70 Q)))))) : O_searchLeans_48 X (d + 1) x l3 l4 l5 o6 o7 m Q := by
  unfold O_searchLeans_48
  have hV : Clo (gP X.1 X.2.1) (d + 1) 55 8 false (Ru0 (gP X.1 X.2.1) (d + 1) 55 X.2.2.1 X.2.2.2 Q) := Ru0_clo (q := mI55) rfl
  refine r_iload hV rfl rfl (pc' := 50) rfl ?_
  refine r_iload hV rfl rfl (pc' := 52) rfl ?_
  obtain ⟨g4, h⟩ := h
  obtain ⟨g5, h⟩ := h
  refine tt_icmp_ge hV rfl g4 g5 (pt := 146) (by decide) (pf := 55) rfl (fun hc => ?_) (fun hc => ?_)
  · replace h := h.1 hc
    exact ru0_ret (q := mI55) rfl rfl rfl h
  · replace h := h.2 (Int.not_le.mp hc)
    refine r_iload hV rfl rfl (pc' := 57) rfl ?_
    refine r_iload_n hV rfl rfl (pc' := 58) rfl ?_
    obtain ⟨v58, m58, h, hr⟩ := h
    refine tt_cs2I hV rfl rfl rfl (Nat.le_of_ble_eq_true rfl) (Nat.le_of_ble_eq_true rfl) rfl hr (pc' := 61) rfl ?_
    refine tt_istore6 hV rfl rfl (pc' := 63) rfl ?_
    refine r_iload hV rfl rfl (pc' := 65) rfl ?_
    refine r_aload_n hV rfl rfl (pc' := 66) rfl ?_
    refine tt_getI hV (tg := 0) (ci := 8) (kf := 1) rfl rfl (by decide) (hB _ _ rfl) rfl (by decide) (pc' := 69) rfl ?_
    refine r_iload_n hV rfl rfl (pc' := 70) rfl ?_
    obtain ⟨v70, m70, h, hr⟩ := h
    refine tt_cs3I hV rfl rfl rfl (Nat.le_of_ble_eq_true rfl) (Nat.le_of_ble_eq_true rfl) rfl hr (pc' := 73) rfl ?_
    refine tt_istore7 hV rfl rfl (pc' := 75) rfl ?_
    refine r_aload_n hV rfl rfl (pc' := 76) rfl ?_
    refine tt_getI hV (tg := 0) (ci := 6) (kf := 1) rfl rfl (by decide) (hB _ _ rfl) rfl (by decide) (pc' := 79) rfl ?_
    refine tt_iconst hV rfl (pc' := 80) rfl ?_
    obtain ⟨g6, h⟩ := h
    refine tt_icmp_eq hV rfl g6 (by decide) (pt := 92) (by decide) (pf := 83) rfl (fun hc => ?_) (fun hc => ?_)
    · replace h := h.1 hc
      exact h
    · replace h := h.2 hc
      refine r_iload hV rfl rfl (pc' := 85) rfl ?_
      refine r_aload_n hV rfl rfl (pc' := 86) rfl ?_
      refine tt_getI hV (tg := 0) (ci := 6) (kf := 1) rfl rfl (by decide) (hB _ _ rfl) rfl (by decide) (pc' := 89) rfl ?_
      obtain ⟨g7, h⟩ := h
      refine tt_icmp_ge hV rfl g7 g6 (pt := 140) (by decide) (pf := 92) rfl (fun hc => ?_) (fun hc => ?_)
      · replace h := h.1 hc
        refine tt_iinc5 hV rfl rfl (pc' := 143) rfl ?_
        refine r_goto hV rfl (pc' := 48) (by decide) ?_
        exact h
      · replace h := h.2 (Int.not_le.mp hc)
        exact h
theorem O_searchLeans_92w {X : Cx} {d : Nat} {x : Int} {l3 : Int} {l4 : Int} {l5 : Int} {l6 : Int} {l7 : Int} {m : Mm} {Q : Mm → Prop} (hB : Bsh X.2.2.1) (h : T_copy X d 69 17 m (fun m97 => S_sideAtEnd X d 69 (up m97 69 1 l6) (fun v117 m117 => (-2147483648 ≤ v117 ∧ v117 < 2147483648) ∧ (-2147483648 ≤ x ∧ x < 2147483648) ∧ (v117 ≠ x → O_searchLeans_48 X (d + 1) x l3 l4 (l5 + 1) (some l6) (some l7) m117 Q) ∧ (v117 = x → O_rowOf X d l6 l3 (up m117 66 1 l7) (fun v134 m134 => O_searchLeans_48 X (d + 1) x l3 l4 (l5 + 1) (some l6) (some l7) (up m134 66 2 v134) Q))))) : O_searchLeans_92 X (d + 1) x l3 l4 l5 l6 l7 m Q := by
  unfold O_searchLeans_92
  have hV : Clo (gP X.1 X.2.1) (d + 1) 55 8 false (Ru0 (gP X.1 X.2.1) (d + 1) 55 X.2.2.1 X.2.2.2 Q) := Ru0_clo (q := mI55) rfl
  refine r_aload_n hV rfl rfl (pc' := 93) rfl ?_
  refine tt_getR hV (tg := 6) (ci := 6) (kf := 4) rfl rfl (by decide) (hB _ _ rfl) rfl (by decide) (pc' := 96) rfl ?_
  refine r_aload_n hV rfl rfl (pc' := 97) rfl ?_
  obtain ⟨m97, h, hr⟩ := h
  refine tt_cv1U hV rfl rfl rfl (Wd_obj (hB _ _ rfl)) (Nat.le_of_ble_eq_true rfl) (Nat.le_of_ble_eq_true rfl) rfl hr (pc' := 100) rfl ?_
  refine r_aload_n hV rfl rfl (pc' := 101) rfl ?_
  refine tt_getR hV (tg := 6) (ci := 6) (kf := 4) rfl rfl (by decide) (hB _ _ rfl) rfl (by decide) (pc' := 104) rfl ?_
  refine r_iload hV rfl rfl (pc' := 106) rfl ?_
  refine tt_putI hV (tg := 0) (ci := 8) (kf := 1) rfl rfl (Or.inl rfl) (hB _ _ rfl) rfl (by decide) rfl (pc' := 109) rfl ?_
  refine r_aload_n hV rfl rfl (pc' := 110) rfl ?_
  refine tt_getR hV (tg := 6) (ci := 6) (kf := 3) rfl rfl (by decide) (hB _ _ rfl) rfl (by decide) (pc' := 113) rfl ?_
  refine r_aload_n hV rfl rfl (pc' := 114) rfl ?_
  refine tt_getR hV (tg := 6) (ci := 6) (kf := 4) rfl rfl (by decide) (hB _ _ rfl) rfl (by decide) (pc' := 117) rfl ?_
  obtain ⟨v117, m117, h, hr⟩ := h
  refine tt_cv1I hV rfl rfl rfl (Wd_obj (hB _ _ rfl)) (Nat.le_of_ble_eq_true rfl) (Nat.le_of_ble_eq_true rfl) rfl hr (pc' := 120) rfl ?_
  refine r_iload_n hV rfl rfl (pc' := 121) rfl ?_
  obtain ⟨g8, h⟩ := h
  obtain ⟨g9, h⟩ := h
  refine tt_icmp_ne hV rfl g8 g9 (pt := 140) (by decide) (pf := 124) rfl (fun hc => ?_) (fun hc => ?_)
  · replace h := h.1 hc
    refine tt_iinc5 hV rfl rfl (pc' := 143) rfl ?_
    refine r_goto hV rfl (pc' := 48) (by decide) ?_
    exact h
  · replace h := h.2 (Decidable.not_not.mp hc)
    refine r_aload_n hV rfl rfl (pc' := 125) rfl ?_
    refine r_iload hV rfl rfl (pc' := 127) rfl ?_
    refine tt_putI hV (tg := 0) (ci := 6) (kf := 1) rfl rfl (Or.inl rfl) (hB _ _ rfl) rfl (by decide) rfl (pc' := 130) rfl ?_
    refine r_aload_n hV rfl rfl (pc' := 131) rfl ?_
    refine r_iload hV rfl rfl (pc' := 133) rfl ?_
    refine r_iload_n hV rfl rfl (pc' := 134) rfl ?_
    obtain ⟨v134, m134, h, hr⟩ := h
    refine tt_cs2I hV rfl rfl rfl (Nat.le_of_ble_eq_true rfl) (Nat.le_of_ble_eq_true rfl) rfl hr (pc' := 137) rfl ?_
    refine tt_putI hV (tg := 0) (ci := 6) (kf := 2) rfl rfl (Or.inl rfl) (hB _ _ rfl) rfl (by decide) rfl (pc' := 140) rfl ?_
    refine tt_iinc5 hV rfl rfl (pc' := 143) rfl ?_
    refine r_goto hV rfl (pc' := 48) (by decide) ?_
    exact h
theorem O_leansOfw {X : Cx} {d : Nat} {x : Int} {y : Int} {m : Mm} {Q : Int → Mm → Prop} (hB : Bsh X.2.2.1) (h : O_leansOf_9 X (d + 1) x y 0 x (y - 1) m Q) : O_leansOf X (d + 1) x y m Q := by
  unfold O_leansOf
  have hV : Clo (gP X.1 X.2.1) (d + 1) 56 5 false (Rq (gP X.1 X.2.1) (d + 1) 56 X.2.2.1 X.2.2.2 Q) := Rq_clo (q := mI56) rfl
  refine tt_iconst hV rfl (pc' := 1) rfl ?_
  refine tt_istore2 hV rfl rfl (pc' := 2) rfl ?_
  refine r_iload_n hV rfl rfl (pc' := 3) rfl ?_
  refine tt_istore3 hV rfl rfl (pc' := 4) rfl ?_
  refine r_iload_n hV rfl rfl (pc' := 5) rfl ?_
  refine tt_iconst hV rfl (pc' := 6) rfl ?_
  refine tt_isub hV rfl (pc' := 7) rfl ?_
  refine tt_istore4 hV rfl rfl (pc' := 9) rfl ?_
  exact h
theorem O_leansOf_9w {X : Cx} {d : Nat} {x : Int} {y : Int} {l2 : Int} {l3 : Int} {l4 : Int} {m : Mm} {Q : Int → Mm → Prop} (hB : Bsh X.2.2.1) (h : (-2147483648 ≤ l4 ∧ l4 < 2147483648) ∧ (l4 < 0 → Q l2 m) ∧ (0 ≤ l4 → T_with X d l2 l4 ((iRm l3 3)) m (fun v20 m20 => O_leansOf_9 X (d + 1) x y v20 ((iDv l3 3)) (l4 - 1) m20 Q))) : O_leansOf_9 X (d + 1) x y l2 l3 l4 m Q := by
  unfold O_leansOf_9
  have hV : Clo (gP X.1 X.2.1) (d + 1) 56 5 false (Rq (gP X.1 X.2.1) (d + 1) 56 X.2.2.1 X.2.2.2 Q) := Rq_clo (q := mI56) rfl
  refine r_iload hV rfl rfl (pc' := 11) rfl ?_
  obtain ⟨g1, h⟩ := h
  refine tt_if_lt hV rfl g1 (pt := 34) (by decide) (pf := 14) rfl (fun hc => ?_) (fun hc => ?_)
  · replace h := h.1 hc
    refine r_iload_n hV rfl rfl (pc' := 35) rfl ?_
    exact rq_ret (q := mI56) rfl rfl rfl h
  · replace h := h.2 (Int.not_lt.mp hc)
    refine r_iload_n hV rfl rfl (pc' := 15) rfl ?_
    refine r_iload hV rfl rfl (pc' := 17) rfl ?_
    refine r_iload_n hV rfl rfl (pc' := 18) rfl ?_
    refine tt_iconst hV rfl (pc' := 19) rfl ?_
    refine tt_irem hV rfl (by decide) (pc' := 20) rfl ?_
    obtain ⟨v20, m20, h, hr⟩ := h
    refine tt_cs3I hV rfl rfl rfl (Nat.le_of_ble_eq_true rfl) (Nat.le_of_ble_eq_true rfl) rfl hr (pc' := 23) rfl ?_
    refine tt_istore2 hV rfl rfl (pc' := 24) rfl ?_
    refine r_iload_n hV rfl rfl (pc' := 25) rfl ?_
    refine tt_iconst hV rfl (pc' := 26) rfl ?_
    refine tt_idiv hV rfl (by decide) (pc' := 27) rfl ?_
    refine tt_istore3 hV rfl rfl (pc' := 28) rfl ?_
    refine tz_iinc4 hV rfl rfl (y := l4 - 1) (by clear h; omega) (pc' := 31) rfl ?_
    refine r_goto hV rfl (pc' := 9) (by decide) ?_
    exact h
theorem O_countUnlikew {X : Cx} {d : Nat} {x : Int} {y : Int} {z : Int} {m : Mm} {Q : Int → Mm → Prop} (hB : Bsh X.2.2.1) (h : O_countUnlike_5 X (d + 1) x y z 0 0 m Q) : O_countUnlike X (d + 1) x y z m Q := by
  unfold O_countUnlike
  have hV : Clo (gP X.1 X.2.1) (d + 1) 57 5 false (Rq (gP X.1 X.2.1) (d + 1) 57 X.2.2.1 X.2.2.2 Q) := Rq_clo (q := mI57) rfl
  refine tt_iconst hV rfl (pc' := 1) rfl ?_
  refine tt_istore3 hV rfl rfl (pc' := 2) rfl ?_
  refine tt_iconst hV rfl (pc' := 3) rfl ?_
  refine tt_istore4 hV rfl rfl (pc' := 5) rfl ?_
  exact h
theorem O_countUnlike_5w {X : Cx} {d : Nat} {x : Int} {y : Int} {z : Int} {l3 : Int} {l4 : Int} {m : Mm} {Q : Int → Mm → Prop} (hB : Bsh X.2.2.1) (h : (-2147483648 ≤ l4 ∧ l4 < 2147483648) ∧ (-2147483648 ≤ z ∧ z < 2147483648) ∧ (z ≤ l4 → Q l3 m) ∧ (l4 < z → T_of X d x l4 m (fun v14 m14 => T_of X d y l4 m14 (fun v20 m20 => (-2147483648 ≤ v14 ∧ v14 < 2147483648) ∧ (-2147483648 ≤ v20 ∧ v20 < 2147483648) ∧ (v14 = v20 → O_countUnlike_5 X (d + 1) x y z l3 (l4 + 1) m20 Q) ∧ (v14 ≠ v20 → O_countUnlike_5 X (d + 1) x y z (l3 + 1) (l4 + 1) m20 Q))))) : O_countUnlike_5 X (d + 1) x y z l3 l4 m Q := by
  unfold O_countUnlike_5
  have hV : Clo (gP X.1 X.2.1) (d + 1) 57 5 false (Rq (gP X.1 X.2.1) (d + 1) 57 X.2.2.1 X.2.2.2 Q) := Rq_clo (q := mI57) rfl
  refine r_iload hV rfl rfl (pc' := 7) rfl ?_
  refine r_iload_n hV rfl rfl (pc' := 8) rfl ?_
  obtain ⟨g1, h⟩ := h
  obtain ⟨g2, h⟩ := h
  refine tt_icmp_ge hV rfl g1 g2 (pt := 35) (by decide) (pf := 11) rfl (fun hc => ?_) (fun hc => ?_)
  · replace h := h.1 hc
    refine r_iload_n hV rfl rfl (pc' := 36) rfl ?_
    exact rq_ret (q := mI57) rfl rfl rfl h
  · replace h := h.2 (Int.not_le.mp hc)
    refine r_iload_n hV rfl rfl (pc' := 12) rfl ?_
    refine r_iload hV rfl rfl (pc' := 14) rfl ?_
    obtain ⟨v14, m14, h, hr⟩ := h
    refine tt_cs2I hV rfl rfl rfl (Nat.le_of_ble_eq_true rfl) (Nat.le_of_ble_eq_true rfl) rfl hr (pc' := 17) rfl ?_
    refine r_iload_n hV rfl rfl (pc' := 18) rfl ?_
    refine r_iload hV rfl rfl (pc' := 20) rfl ?_
    obtain ⟨v20, m20, h, hr⟩ := h
    refine tt_cs2I hV rfl rfl rfl (Nat.le_of_ble_eq_true rfl) (Nat.le_of_ble_eq_true rfl) rfl hr (pc' := 23) rfl ?_
    obtain ⟨g3, h⟩ := h
    obtain ⟨g4, h⟩ := h
    refine tt_icmp_eq hV rfl g3 g4 (pt := 29) (by decide) (pf := 26) rfl (fun hc => ?_) (fun hc => ?_)
    · replace h := h.1 hc
      refine tt_iinc4 hV rfl rfl (pc' := 32) rfl ?_
      refine r_goto hV rfl (pc' := 5) (by decide) ?_
      exact h
    · replace h := h.2 hc
      refine tt_iinc3 hV rfl rfl (pc' := 29) rfl ?_
      refine tt_iinc4 hV rfl rfl (pc' := 32) rfl ?_
      refine r_goto hV rfl (pc' := 5) (by decide) ?_
      exact h
theorem O_rowOfw {X : Cx} {d : Nat} {x : Int} {y : Int} {m : Mm} {Q : Int → Mm → Prop} (hB : Bsh X.2.2.1) (h : O_rowOf_4 X (d + 1) x y 0 0 m Q) : O_rowOf X (d + 1) x y m Q := by
  unfold O_rowOf
  have hV : Clo (gP X.1 X.2.1) (d + 1) 58 4 false (Rq (gP X.1 X.2.1) (d + 1) 58 X.2.2.1 X.2.2.2 Q) := Rq_clo (q := mI58) rfl
  refine tt_iconst hV rfl (pc' := 1) rfl ?_
  refine tt_istore2 hV rfl rfl (pc' := 2) rfl ?_
  refine tt_iconst hV rfl (pc' := 3) rfl ?_
  refine tt_istore3 hV rfl rfl (pc' := 4) rfl ?_
  exact h
theorem O_rowOf_4w {X : Cx} {d : Nat} {x : Int} {y : Int} {l2 : Int} {l3 : Int} {m : Mm} {Q : Int → Mm → Prop} (hB : Bsh X.2.2.1) (h : (-2147483648 ≤ l3 ∧ l3 < 2147483648) ∧ (-2147483648 ≤ y ∧ y < 2147483648) ∧ (y ≤ l3 → Q l2 m) ∧ (l3 < y → T_of X d x l3 m (fun v15 m15 => O_rowOf_4 X (d + 1) x y (10 * l2 + v15) (l3 + 1) m15 Q))) : O_rowOf_4 X (d + 1) x y l2 l3 m Q := by
  unfold O_rowOf_4
  have hV : Clo (gP X.1 X.2.1) (d + 1) 58 4 false (Rq (gP X.1 X.2.1) (d + 1) 58 X.2.2.1 X.2.2.2 Q) := Rq_clo (q := mI58) rfl
  refine r_iload_n hV rfl rfl (pc' := 5) rfl ?_
  refine r_iload_n hV rfl rfl (pc' := 6) rfl ?_
  obtain ⟨g1, h⟩ := h
  obtain ⟨g2, h⟩ := h
  refine tt_icmp_ge hV rfl g1 g2 (pt := 26) (by decide) (pf := 9) rfl (fun hc => ?_) (fun hc => ?_)
  · replace h := h.1 hc
    refine r_iload_n hV rfl rfl (pc' := 27) rfl ?_
    exact rq_ret (q := mI58) rfl rfl rfl h
  · replace h := h.2 (Int.not_le.mp hc)
    refine r_iload_n hV rfl rfl (pc' := 10) rfl ?_
    refine tt_bipush hV rfl (by decide) (pc' := 12) rfl ?_
    refine tt_imul hV rfl (pc' := 13) rfl ?_
    refine vtI (y := 10 * l2) (by clear h; omega) ?_
    refine r_iload_n hV rfl rfl (pc' := 14) rfl ?_
    refine r_iload_n hV rfl rfl (pc' := 15) rfl ?_
    obtain ⟨v15, m15, h, hr⟩ := h
    refine tt_cs2I hV rfl rfl rfl (Nat.le_of_ble_eq_true rfl) (Nat.le_of_ble_eq_true rfl) rfl hr (pc' := 18) rfl ?_
    refine tt_iadd hV rfl (pc' := 19) rfl ?_
    refine tt_istore2 hV rfl rfl (pc' := 20) rfl ?_
    refine tt_iinc3 hV rfl rfl (pc' := 23) rfl ?_
    refine r_goto hV rfl (pc' := 4) (by decide) ?_
    exact h
theorem O_searchSeatsw {X : Cx} {d : Nat} {x : Int} {m : Mm} {Q : Mm → Prop} (hB : Bsh X.2.2.1) (h : ∃ c : Nat, cO c ∧ (m 18 0 = (c : Int)) ∧ O_searchSeats_17 X (d + 1) x (m c 4) 1 0 m Q) : O_searchSeats X (d + 1) x m Q := by
  unfold O_searchSeats
  have hV : Clo (gP X.1 X.2.1) (d + 1) 59 9 false (Ru0 (gP X.1 X.2.1) (d + 1) 59 X.2.2.1 X.2.2.2 Q) := Ru0_clo (q := mI59) rfl
  refine r_aload_n hV rfl rfl (pc' := 1) rfl ?_
  refine tt_getR hV (tg := 6) (ci := 6) (kf := 3) rfl rfl (by decide) (hB _ _ rfl) rfl (by decide) (pc' := 4) rfl ?_
  obtain ⟨c, hc, h⟩ := h
  have hcs := csh_of hB hc
  obtain ⟨g1, h⟩ := h
  refine tt_getP hV (tg := 0) (ci := 7) (kf := 0) rfl rfl (by decide) (hB _ _ rfl) rfl (by decide) (b := c) g1 (pc' := 7) rfl ?_
  refine tt_getI hV (tg := 0) (ci := 0) (kf := 4) rfl rfl (by decide) hcs.1 rfl (by decide) (pc' := 10) rfl ?_
  refine tt_istore3 hV rfl rfl (pc' := 11) rfl ?_
  refine tt_iconst hV rfl (pc' := 12) rfl ?_
  refine tt_istore4 hV rfl rfl (pc' := 14) rfl ?_
  refine tt_iconst hV rfl (pc' := 15) rfl ?_
  refine tt_istore5 hV rfl rfl (pc' := 17) rfl ?_
  exact h
theorem O_searchSeats_17w {X : Cx} {d : Nat} {x : Int} {l3 : Int} {l4 : Int} {l5 : Int} {m : Mm} {Q : Mm → Prop} (hB : Bsh X.2.2.1) (h : (-2147483648 ≤ l5 ∧ l5 < 2147483648) ∧ (-2147483648 ≤ l3 ∧ l3 < 2147483648) ∧ (l3 ≤ l5 → O_searchSeats_60 X (d + 1) x l3 l4 0 none none none (up (up m 66 1 (-1)) 66 2 (-1)) Q) ∧ (l5 < l3 → (0 ≤ l5 ∧ l5 < 6) ∧ O_searchSeats_17 X (d + 1) x l3 ((l4 * (l5 + 1))) (l5 + 1) (up m 70 l5 l5) Q)) : O_searchSeats_17 X (d + 1) x l3 l4 l5 m Q := by
  unfold O_searchSeats_17
  have hV : Clo (gP X.1 X.2.1) (d + 1) 59 9 false (Ru0 (gP X.1 X.2.1) (d + 1) 59 X.2.2.1 X.2.2.2 Q) := Ru0_clo (q := mI59) rfl
  refine r_iload hV rfl rfl (pc' := 19) rfl ?_
  refine r_iload_n hV rfl rfl (pc' := 20) rfl ?_
  obtain ⟨g2, h⟩ := h
  obtain ⟨g3, h⟩ := h
  refine tt_icmp_ge hV rfl g2 g3 (pt := 47) (by decide) (pf := 23) rfl (fun hc => ?_) (fun hc => ?_)
  · replace h := h.1 hc
    refine r_aload_n hV rfl rfl (pc' := 48) rfl ?_
    refine tt_iconst hV rfl (pc' := 49) rfl ?_
    refine tt_putI hV (tg := 0) (ci := 6) (kf := 1) rfl rfl (Or.inl rfl) (hB _ _ rfl) rfl (by decide) rfl (pc' := 52) rfl ?_
    refine r_aload_n hV rfl rfl (pc' := 53) rfl ?_
    refine tt_iconst hV rfl (pc' := 54) rfl ?_
    refine tt_putI hV (tg := 0) (ci := 6) (kf := 2) rfl rfl (Or.inl rfl) (hB _ _ rfl) rfl (by decide) rfl (pc' := 57) rfl ?_
    refine tt_iconst hV rfl (pc' := 58) rfl ?_
    refine tt_istore5 hV rfl rfl (pc' := 60) rfl ?_
    exact h
  · replace h := h.2 (Int.not_le.mp hc)
    refine r_aload_n hV rfl rfl (pc' := 24) rfl ?_
    refine tt_getR hV (tg := 6) (ci := 6) (kf := 5) rfl rfl (by decide) (hB _ _ rfl) rfl (by decide) (pc' := 27) rfl ?_
    refine r_iload hV rfl rfl (pc' := 29) rfl ?_
    refine r_iload hV rfl rfl (pc' := 31) rfl ?_
    obtain ⟨g4, h⟩ := h
    refine q_iast hV rfl (hB _ _ rfl) (Nat.le_of_ble_eq_true rfl) rfl g4 (pc' := 32) rfl ?_
    refine r_iload hV rfl rfl (pc' := 34) rfl ?_
    refine r_iload hV rfl rfl (pc' := 36) rfl ?_
    refine tt_iconst hV rfl (pc' := 37) rfl ?_
    refine tt_iadd hV rfl (pc' := 38) rfl ?_
    refine tt_imul hV rfl (pc' := 39) rfl ?_
    refine vtI (y := (l4 * (l5 + 1))) (by clear h; omega) ?_
    refine tt_istore4 hV rfl rfl (pc' := 41) rfl ?_
    refine tt_iinc5 hV rfl rfl (pc' := 44) rfl ?_
    refine r_goto hV rfl (pc' := 17) (by decide) ?_
    exact h
theorem O_searchSeats_60w {X : Cx} {d : Nat} {x : Int} {l3 : Int} {l4 : Int} {l5 : Int} {o6 : Option Int} {o7 : Option Int} {o8 : Option Int} {m : Mm} {Q : Mm → Prop} (hB : Bsh X.2.2.1) (h : (-2147483648 ≤ l5 ∧ l5 < 2147483648) ∧ (-2147483648 ≤ l4 ∧ l4 < 2147483648) ∧ (l4 ≤ l5 → Q m) ∧ (l5 < l4 → O_searchSeats_76 X (d + 1) x l3 l4 l5 0 0 0 m Q)) : O_searchSeats_60 X (d + 1) x l3 l4 l5 o6 o7 o8 m Q := by
  unfold O_searchSeats_60
  have hV : Clo (gP X.1 X.2.1) (d + 1) 59 9 false (Ru0 (gP X.1 X.2.1) (d + 1) 59 X.2.2.1 X.2.2.2 Q) := Ru0_clo (q := mI59) rfl
  refine r_iload hV rfl rfl (pc' := 62) rfl ?_
  refine r_iload hV rfl rfl (pc' := 64) rfl ?_
  obtain ⟨g5, h⟩ := h
  obtain ⟨g6, h⟩ := h
  refine tt_icmp_ge hV rfl g5 g6 (pt := 203) (by decide) (pf := 67) rfl (fun hc => ?_) (fun hc => ?_)
  · replace h := h.1 hc
    exact ru0_ret (q := mI59) rfl rfl rfl h
  · replace h := h.2 (Int.not_le.mp hc)
    refine tt_iconst hV rfl (pc' := 68) rfl ?_
    refine tt_istore6 hV rfl rfl (pc' := 70) rfl ?_
    refine tt_iconst hV rfl (pc' := 71) rfl ?_
    refine tt_istore7 hV rfl rfl (pc' := 73) rfl ?_
    refine tt_iconst hV rfl (pc' := 74) rfl ?_
    refine tt_istore8 hV rfl rfl (pc' := 76) rfl ?_
    exact h
theorem O_searchSeats_76w {X : Cx} {d : Nat} {x : Int} {l3 : Int} {l4 : Int} {l5 : Int} {l6 : Int} {l7 : Int} {l8 : Int} {m : Mm} {Q : Mm → Prop} (hB : Bsh X.2.2.1) (h : (-2147483648 ≤ l8 ∧ l8 < 2147483648) ∧ (-2147483648 ≤ l3 ∧ l3 < 2147483648) ∧ (l3 ≤ l8 → O_countUnlike X d l6 (m 17 3) l3 m (fun v126 m126 => (-2147483648 ≤ (m126 66 1) ∧ (m126 66 1) < 2147483648) ∧ (m126 66 1 = -1 → O_searchSeats_148 X (d + 1) x l3 l4 l5 l6 l7 v126 m126 Q) ∧ (m126 66 1 ≠ -1 → (-2147483648 ≤ v126 ∧ v126 < 2147483648) ∧ (m126 66 1 ≤ v126 → O_nextOrder X d l3 m126 (fun m194 => O_searchSeats_60 X (d + 1) x l3 l4 (l5 + 1) (some l6) (some l7) (some v126) m194 Q)) ∧ (v126 < m126 66 1 → O_searchSeats_148 X (d + 1) x l3 l4 l5 l6 l7 v126 m126 Q)))) ∧ (l8 < l3 → (0 ≤ l8 ∧ l8 < 6) ∧ T_with X d l6 (m 70 l8) l8 m (fun v93 m93 => O_searchSeats_76 X (d + 1) x l3 l4 l5 v93 (10 * l7 + m93 70 l8) (l8 + 1) m93 Q))) : O_searchSeats_76 X (d + 1) x l3 l4 l5 l6 l7 l8 m Q := by
  unfold O_searchSeats_76
  have hV : Clo (gP X.1 X.2.1) (d + 1) 59 9 false (Ru0 (gP X.1 X.2.1) (d + 1) 59 X.2.2.1 X.2.2.2 Q) := Ru0_clo (q := mI59) rfl
  refine r_iload hV rfl rfl (pc' := 78) rfl ?_
  refine r_iload_n hV rfl rfl (pc' := 79) rfl ?_
  obtain ⟨g7, h⟩ := h
  obtain ⟨g8, h⟩ := h
  refine tt_icmp_ge hV rfl g7 g8 (pt := 119) (by decide) (pf := 82) rfl (fun hc => ?_) (fun hc => ?_)
  · replace h := h.1 hc
    refine r_iload hV rfl rfl (pc' := 121) rfl ?_
    refine r_aload_n hV rfl rfl (pc' := 122) rfl ?_
    refine tt_getI hV (tg := 0) (ci := 8) (kf := 3) rfl rfl (by decide) (hB _ _ rfl) rfl (by decide) (pc' := 125) rfl ?_
    refine r_iload_n hV rfl rfl (pc' := 126) rfl ?_
    obtain ⟨v126, m126, h, hr⟩ := h
    refine tt_cs3I hV rfl rfl rfl (Nat.le_of_ble_eq_true rfl) (Nat.le_of_ble_eq_true rfl) rfl hr (pc' := 129) rfl ?_
    refine tt_istore8 hV rfl rfl (pc' := 131) rfl ?_
    refine r_aload_n hV rfl rfl (pc' := 132) rfl ?_
    refine tt_getI hV (tg := 0) (ci := 6) (kf := 1) rfl rfl (by decide) (hB _ _ rfl) rfl (by decide) (pc' := 135) rfl ?_
    refine tt_iconst hV rfl (pc' := 136) rfl ?_
    obtain ⟨g9, h⟩ := h
    refine tt_icmp_eq hV rfl g9 (by decide) (pt := 148) (by decide) (pf := 139) rfl (fun hc => ?_) (fun hc => ?_)
    · replace h := h.1 hc
      exact h
    · replace h := h.2 hc
      refine r_iload hV rfl rfl (pc' := 141) rfl ?_
      refine r_aload_n hV rfl rfl (pc' := 142) rfl ?_
      refine tt_getI hV (tg := 0) (ci := 6) (kf := 1) rfl rfl (by decide) (hB _ _ rfl) rfl (by decide) (pc' := 145) rfl ?_
      obtain ⟨g10, h⟩ := h
      refine tt_icmp_ge hV rfl g10 g9 (pt := 192) (by decide) (pf := 148) rfl (fun hc => ?_) (fun hc => ?_)
      · replace h := h.1 hc
        refine r_aload_n hV rfl rfl (pc' := 193) rfl ?_
        refine r_iload_n hV rfl rfl (pc' := 194) rfl ?_
        obtain ⟨m194, h, hr⟩ := h
        refine tt_cv1U hV rfl rfl rfl (Wd_obj (hB _ _ rfl)) (Nat.le_of_ble_eq_true rfl) (Nat.le_of_ble_eq_true rfl) rfl hr (pc' := 197) rfl ?_
        refine tt_iinc5 hV rfl rfl (pc' := 200) rfl ?_
        refine r_goto hV rfl (pc' := 60) (by decide) ?_
        exact h
      · replace h := h.2 (Int.not_le.mp hc)
        exact h
  · replace h := h.2 (Int.not_le.mp hc)
    refine r_iload hV rfl rfl (pc' := 84) rfl ?_
    refine r_aload_n hV rfl rfl (pc' := 85) rfl ?_
    refine tt_getR hV (tg := 6) (ci := 6) (kf := 5) rfl rfl (by decide) (hB _ _ rfl) rfl (by decide) (pc' := 88) rfl ?_
    refine r_iload hV rfl rfl (pc' := 90) rfl ?_
    obtain ⟨g11, h⟩ := h
    refine q_iald hV rfl (hB _ _ rfl) (Nat.le_of_ble_eq_true rfl) rfl g11 (pc' := 91) rfl ?_
    refine r_iload hV rfl rfl (pc' := 93) rfl ?_
    obtain ⟨v93, m93, h, hr⟩ := h
    refine tt_cs3I hV rfl rfl rfl (Nat.le_of_ble_eq_true rfl) (Nat.le_of_ble_eq_true rfl) rfl hr (pc' := 96) rfl ?_
    refine tt_istore6 hV rfl rfl (pc' := 98) rfl ?_
    refine r_iload hV rfl rfl (pc' := 100) rfl ?_
    refine tt_bipush hV rfl (by decide) (pc' := 102) rfl ?_
    refine tt_imul hV rfl (pc' := 103) rfl ?_
    refine vtI (y := 10 * l7) (by clear h; omega) ?_
    refine r_aload_n hV rfl rfl (pc' := 104) rfl ?_
    refine tt_getR hV (tg := 6) (ci := 6) (kf := 5) rfl rfl (by decide) (hB _ _ rfl) rfl (by decide) (pc' := 107) rfl ?_
    refine r_iload hV rfl rfl (pc' := 109) rfl ?_
    refine q_iald hV rfl (hB _ _ rfl) (Nat.le_of_ble_eq_true rfl) rfl g11 (pc' := 110) rfl ?_
    refine tt_iadd hV rfl (pc' := 111) rfl ?_
    refine tt_istore7 hV rfl rfl (pc' := 113) rfl ?_
    refine tt_iinc8 hV rfl rfl (pc' := 116) rfl ?_
    refine r_goto hV rfl (pc' := 76) (by decide) ?_
    exact h
theorem O_searchSeats_148w {X : Cx} {d : Nat} {x : Int} {l3 : Int} {l4 : Int} {l5 : Int} {l6 : Int} {l7 : Int} {l8 : Int} {m : Mm} {Q : Mm → Prop} (hB : Bsh X.2.2.1) (h : T_copy X d 69 17 m (fun m153 => S_sideAtEnd X d 69 (up m153 69 3 l6) (fun v173 m173 => (-2147483648 ≤ v173 ∧ v173 < 2147483648) ∧ (-2147483648 ≤ x ∧ x < 2147483648) ∧ (v173 ≠ x → O_nextOrder X d l3 m173 (fun m194 => O_searchSeats_60 X (d + 1) x l3 l4 (l5 + 1) (some l6) (some l7) (some l8) m194 Q)) ∧ (v173 = x → O_nextOrder X d l3 (up (up m173 66 1 l8) 66 2 l7) (fun m194 => O_searchSeats_60 X (d + 1) x l3 l4 (l5 + 1) (some l6) (some l7) (some l8) m194 Q))))) : O_searchSeats_148 X (d + 1) x l3 l4 l5 l6 l7 l8 m Q := by
  unfold O_searchSeats_148
  have hV : Clo (gP X.1 X.2.1) (d + 1) 59 9 false (Ru0 (gP X.1 X.2.1) (d + 1) 59 X.2.2.1 X.2.2.2 Q) := Ru0_clo (q := mI59) rfl
  refine r_aload_n hV rfl rfl (pc' := 149) rfl ?_
  refine tt_getR hV (tg := 6) (ci := 6) (kf := 4) rfl rfl (by decide) (hB _ _ rfl) rfl (by decide) (pc' := 152) rfl ?_
  refine r_aload_n hV rfl rfl (pc' := 153) rfl ?_
  obtain ⟨m153, h, hr⟩ := h
  refine tt_cv1U hV rfl rfl rfl (Wd_obj (hB _ _ rfl)) (Nat.le_of_ble_eq_true rfl) (Nat.le_of_ble_eq_true rfl) rfl hr (pc' := 156) rfl ?_
  refine r_aload_n hV rfl rfl (pc' := 157) rfl ?_
  refine tt_getR hV (tg := 6) (ci := 6) (kf := 4) rfl rfl (by decide) (hB _ _ rfl) rfl (by decide) (pc' := 160) rfl ?_
  refine r_iload hV rfl rfl (pc' := 162) rfl ?_
  refine tt_putI hV (tg := 0) (ci := 8) (kf := 3) rfl rfl (Or.inl rfl) (hB _ _ rfl) rfl (by decide) rfl (pc' := 165) rfl ?_
  refine r_aload_n hV rfl rfl (pc' := 166) rfl ?_
  refine tt_getR hV (tg := 6) (ci := 6) (kf := 3) rfl rfl (by decide) (hB _ _ rfl) rfl (by decide) (pc' := 169) rfl ?_
  refine r_aload_n hV rfl rfl (pc' := 170) rfl ?_
  refine tt_getR hV (tg := 6) (ci := 6) (kf := 4) rfl rfl (by decide) (hB _ _ rfl) rfl (by decide) (pc' := 173) rfl ?_
  obtain ⟨v173, m173, h, hr⟩ := h
  refine tt_cv1I hV rfl rfl rfl (Wd_obj (hB _ _ rfl)) (Nat.le_of_ble_eq_true rfl) (Nat.le_of_ble_eq_true rfl) rfl hr (pc' := 176) rfl ?_
  refine r_iload_n hV rfl rfl (pc' := 177) rfl ?_
  obtain ⟨g12, h⟩ := h
  obtain ⟨g13, h⟩ := h
  refine tt_icmp_ne hV rfl g12 g13 (pt := 192) (by decide) (pf := 180) rfl (fun hc => ?_) (fun hc => ?_)
  · replace h := h.1 hc
    refine r_aload_n hV rfl rfl (pc' := 193) rfl ?_
    refine r_iload_n hV rfl rfl (pc' := 194) rfl ?_
    obtain ⟨m194, h, hr⟩ := h
    refine tt_cv1U hV rfl rfl rfl (Wd_obj (hB _ _ rfl)) (Nat.le_of_ble_eq_true rfl) (Nat.le_of_ble_eq_true rfl) rfl hr (pc' := 197) rfl ?_
    refine tt_iinc5 hV rfl rfl (pc' := 200) rfl ?_
    refine r_goto hV rfl (pc' := 60) (by decide) ?_
    exact h
  · replace h := h.2 (Decidable.not_not.mp hc)
    refine r_aload_n hV rfl rfl (pc' := 181) rfl ?_
    refine r_iload hV rfl rfl (pc' := 183) rfl ?_
    refine tt_putI hV (tg := 0) (ci := 6) (kf := 1) rfl rfl (Or.inl rfl) (hB _ _ rfl) rfl (by decide) rfl (pc' := 186) rfl ?_
    refine r_aload_n hV rfl rfl (pc' := 187) rfl ?_
    refine r_iload hV rfl rfl (pc' := 189) rfl ?_
    refine tt_putI hV (tg := 0) (ci := 6) (kf := 2) rfl rfl (Or.inl rfl) (hB _ _ rfl) rfl (by decide) rfl (pc' := 192) rfl ?_
    refine r_aload_n hV rfl rfl (pc' := 193) rfl ?_
    refine r_iload_n hV rfl rfl (pc' := 194) rfl ?_
    obtain ⟨m194, h, hr⟩ := h
    refine tt_cv1U hV rfl rfl rfl (Wd_obj (hB _ _ rfl)) (Nat.le_of_ble_eq_true rfl) (Nat.le_of_ble_eq_true rfl) rfl hr (pc' := 197) rfl ?_
    refine tt_iinc5 hV rfl rfl (pc' := 200) rfl ?_
    refine r_goto hV rfl (pc' := 60) (by decide) ?_
    exact h
theorem O_nextOrderw {X : Cx} {d : Nat} {x : Int} {m : Mm} {Q : Mm → Prop} (hB : Bsh X.2.2.1) (h : O_nextOrder_4 X (d + 1) x (x - 2) m Q) : O_nextOrder X (d + 1) x m Q := by
  unfold O_nextOrder
  have hV : Clo (gP X.1 X.2.1) (d + 1) 60 6 false (Ru0 (gP X.1 X.2.1) (d + 1) 60 X.2.2.1 X.2.2.2 Q) := Ru0_clo (q := mI60) rfl
  refine r_iload_n hV rfl rfl (pc' := 1) rfl ?_
  refine tt_iconst hV rfl (pc' := 2) rfl ?_
  refine tt_isub hV rfl (pc' := 3) rfl ?_
  refine tt_istore2 hV rfl rfl (pc' := 4) rfl ?_
  exact h
theorem O_nextOrder_4w {X : Cx} {d : Nat} {x : Int} {l2 : Int} {m : Mm} {Q : Mm → Prop} (hB : Bsh X.2.2.1) (h : (-2147483648 ≤ l2 ∧ l2 < 2147483648) ∧ (l2 < 0 → (0 ≤ l2 → O_nextOrder_40 X (d + 1) x l2 (x - 1) m Q) ∧ (l2 < 0 → Q m)) ∧ (0 ≤ l2 → (0 ≤ l2 ∧ l2 < 6) ∧ (0 ≤ l2 + 1 ∧ l2 + 1 < 6) ∧ (-2147483648 ≤ (m 70 l2) ∧ (m 70 l2) < 2147483648) ∧ (-2147483648 ≤ (m 70 (l2 + 1)) ∧ (m 70 (l2 + 1)) < 2147483648) ∧ (m 70 l2 ≤ m 70 (l2 + 1) → (0 ≤ l2 → O_nextOrder_40 X (d + 1) x l2 (x - 1) m Q) ∧ (l2 < 0 → Q m)) ∧ (m 70 (l2 + 1) < m 70 l2 → O_nextOrder_4 X (d + 1) x (l2 - 1) m Q))) : O_nextOrder_4 X (d + 1) x l2 m Q := by
  unfold O_nextOrder_4
  have hV : Clo (gP X.1 X.2.1) (d + 1) 60 6 false (Ru0 (gP X.1 X.2.1) (d + 1) 60 X.2.2.1 X.2.2.2 Q) := Ru0_clo (q := mI60) rfl
  refine r_iload_n hV rfl rfl (pc' := 5) rfl ?_
  obtain ⟨g1, h⟩ := h
  refine tt_if_lt hV rfl g1 (pt := 31) (by decide) (pf := 8) rfl (fun hc => ?_) (fun hc => ?_)
  · replace h := h.1 hc
    refine r_iload_n hV rfl rfl (pc' := 32) rfl ?_
    refine tt_if_ge hV rfl g1 (pt := 36) (by decide) (pf := 35) rfl (fun hc => ?_) (fun hc => ?_)
    · replace h := h.1 hc
      refine r_iload_n hV rfl rfl (pc' := 37) rfl ?_
      refine tt_iconst hV rfl (pc' := 38) rfl ?_
      refine tt_isub hV rfl (pc' := 39) rfl ?_
      refine tt_istore3 hV rfl rfl (pc' := 40) rfl ?_
      exact h
    · replace h := h.2 (Int.not_le.mp hc)
      exact ru0_ret (q := mI60) rfl rfl rfl h
  · replace h := h.2 (Int.not_lt.mp hc)
    refine r_aload_n hV rfl rfl (pc' := 9) rfl ?_
    refine tt_getR hV (tg := 6) (ci := 6) (kf := 5) rfl rfl (by decide) (hB _ _ rfl) rfl (by decide) (pc' := 12) rfl ?_
    refine r_iload_n hV rfl rfl (pc' := 13) rfl ?_
    obtain ⟨g2, h⟩ := h
    refine q_iald hV rfl (hB _ _ rfl) (Nat.le_of_ble_eq_true rfl) rfl g2 (pc' := 14) rfl ?_
    refine r_aload_n hV rfl rfl (pc' := 15) rfl ?_
    refine tt_getR hV (tg := 6) (ci := 6) (kf := 5) rfl rfl (by decide) (hB _ _ rfl) rfl (by decide) (pc' := 18) rfl ?_
    refine r_iload_n hV rfl rfl (pc' := 19) rfl ?_
    refine tt_iconst hV rfl (pc' := 20) rfl ?_
    refine tt_iadd hV rfl (pc' := 21) rfl ?_
    obtain ⟨g3, h⟩ := h
    refine q_iald hV rfl (hB _ _ rfl) (Nat.le_of_ble_eq_true rfl) rfl g3 (pc' := 22) rfl ?_
    obtain ⟨g4, h⟩ := h
    obtain ⟨g5, h⟩ := h
    refine tt_icmp_le hV rfl g4 g5 (pt := 31) (by decide) (pf := 25) rfl (fun hc => ?_) (fun hc => ?_)
    · replace h := h.1 hc
      refine r_iload_n hV rfl rfl (pc' := 32) rfl ?_
      refine tt_if_ge hV rfl g1 (pt := 36) (by decide) (pf := 35) rfl (fun hc => ?_) (fun hc => ?_)
      · replace h := h.1 hc
        refine r_iload_n hV rfl rfl (pc' := 37) rfl ?_
        refine tt_iconst hV rfl (pc' := 38) rfl ?_
        refine tt_isub hV rfl (pc' := 39) rfl ?_
        refine tt_istore3 hV rfl rfl (pc' := 40) rfl ?_
        exact h
      · replace h := h.2 (Int.not_le.mp hc)
        exact ru0_ret (q := mI60) rfl rfl rfl h
    · replace h := h.2 (Int.not_le.mp hc)
      refine tz_iinc2 hV rfl rfl (y := l2 - 1) (by clear h; omega) (pc' := 28) rfl ?_
      refine r_goto hV rfl (pc' := 4) (by decide) ?_
      exact h
theorem O_nextOrder_40w {X : Cx} {d : Nat} {x : Int} {l2 : Int} {l3 : Int} {m : Mm} {Q : Mm → Prop} (hB : Bsh X.2.2.1) (h : (-2147483648 ≤ l3 ∧ l3 < 2147483648) ∧ (-2147483648 ≤ l2 ∧ l2 < 2147483648) ∧ (l3 ≤ l2 → O_nextOrder_66 X (d + 1) x l2 l3 m Q) ∧ (l2 < l3 → (0 ≤ l3 ∧ l3 < 6) ∧ (0 ≤ l2 ∧ l2 < 6) ∧ (-2147483648 ≤ (m 70 l3) ∧ (m 70 l3) < 2147483648) ∧ (-2147483648 ≤ (m 70 l2) ∧ (m 70 l2) < 2147483648) ∧ (m 70 l2 ≤ m 70 l3 → O_nextOrder_66 X (d + 1) x l2 l3 m Q) ∧ (m 70 l3 < m 70 l2 → O_nextOrder_40 X (d + 1) x l2 (l3 - 1) m Q))) : O_nextOrder_40 X (d + 1) x l2 l3 m Q := by
  unfold O_nextOrder_40
  have hV : Clo (gP X.1 X.2.1) (d + 1) 60 6 false (Ru0 (gP X.1 X.2.1) (d + 1) 60 X.2.2.1 X.2.2.2 Q) := Ru0_clo (q := mI60) rfl
  refine r_iload_n hV rfl rfl (pc' := 41) rfl ?_
  refine r_iload_n hV rfl rfl (pc' := 42) rfl ?_
  obtain ⟨g6, h⟩ := h
  obtain ⟨g7, h⟩ := h
  refine tt_icmp_le hV rfl g6 g7 (pt := 66) (by decide) (pf := 45) rfl (fun hc => ?_) (fun hc => ?_)
  · replace h := h.1 hc
    exact h
  · replace h := h.2 (Int.not_le.mp hc)
    refine r_aload_n hV rfl rfl (pc' := 46) rfl ?_
    refine tt_getR hV (tg := 6) (ci := 6) (kf := 5) rfl rfl (by decide) (hB _ _ rfl) rfl (by decide) (pc' := 49) rfl ?_
    refine r_iload_n hV rfl rfl (pc' := 50) rfl ?_
    obtain ⟨g8, h⟩ := h
    refine q_iald hV rfl (hB _ _ rfl) (Nat.le_of_ble_eq_true rfl) rfl g8 (pc' := 51) rfl ?_
    refine r_aload_n hV rfl rfl (pc' := 52) rfl ?_
    refine tt_getR hV (tg := 6) (ci := 6) (kf := 5) rfl rfl (by decide) (hB _ _ rfl) rfl (by decide) (pc' := 55) rfl ?_
    refine r_iload_n hV rfl rfl (pc' := 56) rfl ?_
    obtain ⟨g9, h⟩ := h
    refine q_iald hV rfl (hB _ _ rfl) (Nat.le_of_ble_eq_true rfl) rfl g9 (pc' := 57) rfl ?_
    obtain ⟨g10, h⟩ := h
    obtain ⟨g11, h⟩ := h
    refine tt_icmp_ge hV rfl g10 g11 (pt := 66) (by decide) (pf := 60) rfl (fun hc => ?_) (fun hc => ?_)
    · replace h := h.1 hc
      exact h
    · replace h := h.2 (Int.not_le.mp hc)
      refine tz_iinc3 hV rfl rfl (y := l3 - 1) (by clear h; omega) (pc' := 63) rfl ?_
      refine r_goto hV rfl (pc' := 40) (by decide) ?_
      exact h
theorem O_nextOrder_66w {X : Cx} {d : Nat} {x : Int} {l2 : Int} {l3 : Int} {m : Mm} {Q : Mm → Prop} (hB : Bsh X.2.2.1) (h : O_swapOrder X d l2 l3 m (fun m69 => O_nextOrder_82 X (d + 1) x l2 l3 (l2 + 1) (x - 1) m69 Q)) : O_nextOrder_66 X (d + 1) x l2 l3 m Q := by
  unfold O_nextOrder_66
  have hV : Clo (gP X.1 X.2.1) (d + 1) 60 6 false (Ru0 (gP X.1 X.2.1) (d + 1) 60 X.2.2.1 X.2.2.2 Q) := Ru0_clo (q := mI60) rfl
  refine r_aload_n hV rfl rfl (pc' := 67) rfl ?_
  refine r_iload_n hV rfl rfl (pc' := 68) rfl ?_
  refine r_iload_n hV rfl rfl (pc' := 69) rfl ?_
  obtain ⟨m69, h, hr⟩ := h
  refine tt_cv2U hV rfl rfl rfl (Wd_obj (hB _ _ rfl)) (Nat.le_of_ble_eq_true rfl) (Nat.le_of_ble_eq_true rfl) rfl hr (pc' := 72) rfl ?_
  refine r_iload_n hV rfl rfl (pc' := 73) rfl ?_
  refine tt_iconst hV rfl (pc' := 74) rfl ?_
  refine tt_iadd hV rfl (pc' := 75) rfl ?_
  refine tt_istore4 hV rfl rfl (pc' := 77) rfl ?_
  refine r_iload_n hV rfl rfl (pc' := 78) rfl ?_
  refine tt_iconst hV rfl (pc' := 79) rfl ?_
  refine tt_isub hV rfl (pc' := 80) rfl ?_
  refine tt_istore5 hV rfl rfl (pc' := 82) rfl ?_
  exact h
theorem O_nextOrder_82w {X : Cx} {d : Nat} {x : Int} {l2 : Int} {l3 : Int} {l4 : Int} {l5 : Int} {m : Mm} {Q : Mm → Prop} (hB : Bsh X.2.2.1) (h : (-2147483648 ≤ l4 ∧ l4 < 2147483648) ∧ (-2147483648 ≤ l5 ∧ l5 < 2147483648) ∧ (l5 ≤ l4 → Q m) ∧ (l4 < l5 → O_swapOrder X d l4 l5 m (fun m94 => O_nextOrder_82 X (d + 1) x l2 l3 (l4 + 1) (l5 - 1) m94 Q))) : O_nextOrder_82 X (d + 1) x l2 l3 l4 l5 m Q := by
  unfold O_nextOrder_82
  have hV : Clo (gP X.1 X.2.1) (d + 1) 60 6 false (Ru0 (gP X.1 X.2.1) (d + 1) 60 X.2.2.1 X.2.2.2 Q) := Ru0_clo (q := mI60) rfl
  refine r_iload hV rfl rfl (pc' := 84) rfl ?_
  refine r_iload hV rfl rfl (pc' := 86) rfl ?_
  obtain ⟨g12, h⟩ := h
  obtain ⟨g13, h⟩ := h
  refine tt_icmp_ge hV rfl g12 g13 (pt := 106) (by decide) (pf := 89) rfl (fun hc => ?_) (fun hc => ?_)
  · replace h := h.1 hc
    exact ru0_ret (q := mI60) rfl rfl rfl h
  · replace h := h.2 (Int.not_le.mp hc)
    refine r_aload_n hV rfl rfl (pc' := 90) rfl ?_
    refine r_iload hV rfl rfl (pc' := 92) rfl ?_
    refine r_iload hV rfl rfl (pc' := 94) rfl ?_
    obtain ⟨m94, h, hr⟩ := h
    refine tt_cv2U hV rfl rfl rfl (Wd_obj (hB _ _ rfl)) (Nat.le_of_ble_eq_true rfl) (Nat.le_of_ble_eq_true rfl) rfl hr (pc' := 97) rfl ?_
    refine tt_iinc4 hV rfl rfl (pc' := 100) rfl ?_
    refine tz_iinc5 hV rfl rfl (y := l5 - 1) (by clear h; omega) (pc' := 103) rfl ?_
    refine r_goto hV rfl (pc' := 82) (by decide) ?_
    exact h
theorem O_swapOrderw {X : Cx} {d : Nat} {x : Int} {y : Int} {m : Mm} {Q : Mm → Prop} (hB : Bsh X.2.2.1) (h : (0 ≤ x ∧ x < 6) ∧ (0 ≤ y ∧ y < 6) ∧ Q (up (up m 70 x (m 70 y)) 70 y (m 70 x))) : O_swapOrder X d x y m Q := by
  unfold O_swapOrder
  have hV : Clo (gP X.1 X.2.1) d 61 4 false (Ru0 (gP X.1 X.2.1) d 61 X.2.2.1 X.2.2.2 Q) := Ru0_clo (q := mI61) rfl
  refine r_aload_n hV rfl rfl (pc' := 1) rfl ?_
  refine tt_getR hV (tg := 6) (ci := 6) (kf := 5) rfl rfl (by decide) (hB _ _ rfl) rfl (by decide) (pc' := 4) rfl ?_
  refine r_iload_n hV rfl rfl (pc' := 5) rfl ?_
  obtain ⟨g1, h⟩ := h
  refine q_iald hV rfl (hB _ _ rfl) (Nat.le_of_ble_eq_true rfl) rfl g1 (pc' := 6) rfl ?_
  refine tt_istore3 hV rfl rfl (pc' := 7) rfl ?_
  refine r_aload_n hV rfl rfl (pc' := 8) rfl ?_
  refine tt_getR hV (tg := 6) (ci := 6) (kf := 5) rfl rfl (by decide) (hB _ _ rfl) rfl (by decide) (pc' := 11) rfl ?_
  refine r_iload_n hV rfl rfl (pc' := 12) rfl ?_
  refine r_aload_n hV rfl rfl (pc' := 13) rfl ?_
  refine tt_getR hV (tg := 6) (ci := 6) (kf := 5) rfl rfl (by decide) (hB _ _ rfl) rfl (by decide) (pc' := 16) rfl ?_
  refine r_iload_n hV rfl rfl (pc' := 17) rfl ?_
  obtain ⟨g2, h⟩ := h
  refine q_iald hV rfl (hB _ _ rfl) (Nat.le_of_ble_eq_true rfl) rfl g2 (pc' := 18) rfl ?_
  refine q_iast hV rfl (hB _ _ rfl) (Nat.le_of_ble_eq_true rfl) rfl g1 (pc' := 19) rfl ?_
  refine r_aload_n hV rfl rfl (pc' := 20) rfl ?_
  refine tt_getR hV (tg := 6) (ci := 6) (kf := 5) rfl rfl (by decide) (hB _ _ rfl) rfl (by decide) (pc' := 23) rfl ?_
  refine r_iload_n hV rfl rfl (pc' := 24) rfl ?_
  refine r_iload_n hV rfl rfl (pc' := 25) rfl ?_
  refine q_iast hV rfl (hB _ _ rfl) (Nat.le_of_ble_eq_true rfl) rfl g2 (pc' := 26) rfl ?_
  exact ru0_ret (q := mI61) rfl rfl rfl h
theorem O_turnedByw {X : Cx} {d : Nat} {x : Int} {m : Mm} {Q : Int → Mm → Prop} (hB : Bsh X.2.2.1) (h : O_turnedBy_2 X (d + 1) x 0 none m Q) : O_turnedBy X (d + 1) x m Q := by
  unfold O_turnedBy
  have hV : Clo (gP X.1 X.2.1) (d + 1) 62 5 false (Rq (gP X.1 X.2.1) (d + 1) 62 X.2.2.1 X.2.2.2 Q) := Rq_clo (q := mI62) rfl
  refine tt_iconst hV rfl (pc' := 1) rfl ?_
  refine tt_istore3 hV rfl rfl (pc' := 2) rfl ?_
  exact h
theorem O_turnedBy_2w {X : Cx} {d : Nat} {x : Int} {l3 : Int} {o4 : Option Int} {m : Mm} {Q : Int → Mm → Prop} (hB : Bsh X.2.2.1) (h : S_everyone X d m (fun v7 m7 => (-2147483648 ≤ l3 ∧ l3 < 2147483648) ∧ (-2147483648 ≤ v7 ∧ v7 < 2147483648) ∧ (v7 < l3 → O_turnedBy_100 X (d + 1) x 0 0 m7 Q) ∧ (l3 ≤ v7 → T_copy X d 69 17 m7 (fun m18 => O_turnedBy_24 X (d + 1) x l3 0 m18 Q)))) : O_turnedBy_2 X (d + 1) x l3 o4 m Q := by
  unfold O_turnedBy_2
  have hV : Clo (gP X.1 X.2.1) (d + 1) 62 5 false (Rq (gP X.1 X.2.1) (d + 1) 62 X.2.2.1 X.2.2.2 Q) := Rq_clo (q := mI62) rfl
  refine r_iload_n hV rfl rfl (pc' := 3) rfl ?_
  refine r_aload_n hV rfl rfl (pc' := 4) rfl ?_
  refine tt_getR hV (tg := 6) (ci := 6) (kf := 3) rfl rfl (by decide) (hB _ _ rfl) rfl (by decide) (pc' := 7) rfl ?_
  obtain ⟨v7, m7, h, hr⟩ := h
  refine tt_cv0I hV rfl rfl rfl (Wd_obj (hB _ _ rfl)) (Nat.le_of_ble_eq_true rfl) (Nat.le_of_ble_eq_true rfl) rfl hr (pc' := 10) rfl ?_
  obtain ⟨g1, h⟩ := h
  obtain ⟨g2, h⟩ := h
  refine tt_icmp_gt hV rfl g1 g2 (pt := 95) (by decide) (pf := 13) rfl (fun hc => ?_) (fun hc => ?_)
  · replace h := h.1 hc
    refine tt_iconst hV rfl (pc' := 96) rfl ?_
    refine tt_istore3 hV rfl rfl (pc' := 97) rfl ?_
    refine tt_iconst hV rfl (pc' := 98) rfl ?_
    refine tt_istore4 hV rfl rfl (pc' := 100) rfl ?_
    exact h
  · replace h := h.2 (Int.not_lt.mp hc)
    refine r_aload_n hV rfl rfl (pc' := 14) rfl ?_
    refine tt_getR hV (tg := 6) (ci := 6) (kf := 4) rfl rfl (by decide) (hB _ _ rfl) rfl (by decide) (pc' := 17) rfl ?_
    refine r_aload_n hV rfl rfl (pc' := 18) rfl ?_
    obtain ⟨m18, h, hr⟩ := h
    refine tt_cv1U hV rfl rfl rfl (Wd_obj (hB _ _ rfl)) (Nat.le_of_ble_eq_true rfl) (Nat.le_of_ble_eq_true rfl) rfl hr (pc' := 21) rfl ?_
    refine tt_iconst hV rfl (pc' := 22) rfl ?_
    refine tt_istore4 hV rfl rfl (pc' := 24) rfl ?_
    exact h
theorem O_turnedBy_24w {X : Cx} {d : Nat} {x : Int} {l3 : Int} {l4 : Int} {m : Mm} {Q : Int → Mm → Prop} (hB : Bsh X.2.2.1) (h : ∃ c : Nat, cO c ∧ (m 18 0 = (c : Int)) ∧ (-2147483648 ≤ l4 ∧ l4 < 2147483648) ∧ (-2147483648 ≤ (m c 4) ∧ (m c 4) < 2147483648) ∧ (m c 4 ≤ l4 → S_sideAtEnd X d 69 m (fun v85 m85 => (0 ≤ l3 ∧ l3 < 64) ∧ O_turnedBy_2 X (d + 1) x (l3 + 1) (some l4) (up m85 71 l3 v85) Q)) ∧ (l4 < m c 4 → T_with X d (m 69 1) l4 (2 * (iA ((iSr l3 l4)) 1)) m (fun v60 m60 => O_turnedBy_24 X (d + 1) x l3 (l4 + 1) (up m60 69 1 v60) Q))) : O_turnedBy_24 X (d + 1) x l3 l4 m Q := by
  unfold O_turnedBy_24
  have hV : Clo (gP X.1 X.2.1) (d + 1) 62 5 false (Rq (gP X.1 X.2.1) (d + 1) 62 X.2.2.1 X.2.2.2 Q) := Rq_clo (q := mI62) rfl
  refine r_iload hV rfl rfl (pc' := 26) rfl ?_
  refine r_aload_n hV rfl rfl (pc' := 27) rfl ?_
  refine tt_getR hV (tg := 6) (ci := 6) (kf := 3) rfl rfl (by decide) (hB _ _ rfl) rfl (by decide) (pc' := 30) rfl ?_
  obtain ⟨c, hc, h⟩ := h
  have hcs := csh_of hB hc
  obtain ⟨g3, h⟩ := h
  refine tt_getP hV (tg := 0) (ci := 7) (kf := 0) rfl rfl (by decide) (hB _ _ rfl) rfl (by decide) (b := c) g3 (pc' := 33) rfl ?_
  refine tt_getI hV (tg := 0) (ci := 0) (kf := 4) rfl rfl (by decide) hcs.1 rfl (by decide) (pc' := 36) rfl ?_
  obtain ⟨g4, h⟩ := h
  obtain ⟨g5, h⟩ := h
  refine tt_icmp_ge hV rfl g4 g5 (pt := 72) (by decide) (pf := 39) rfl (fun hc => ?_) (fun hc => ?_)
  · replace h := h.1 hc
    refine r_aload_n hV rfl rfl (pc' := 73) rfl ?_
    refine tt_getR hV (tg := 6) (ci := 6) (kf := 6) rfl rfl (by decide) (hB _ _ rfl) rfl (by decide) (pc' := 76) rfl ?_
    refine r_iload_n hV rfl rfl (pc' := 77) rfl ?_
    refine r_aload_n hV rfl rfl (pc' := 78) rfl ?_
    refine tt_getR hV (tg := 6) (ci := 6) (kf := 3) rfl rfl (by decide) (hB _ _ rfl) rfl (by decide) (pc' := 81) rfl ?_
    refine r_aload_n hV rfl rfl (pc' := 82) rfl ?_
    refine tt_getR hV (tg := 6) (ci := 6) (kf := 4) rfl rfl (by decide) (hB _ _ rfl) rfl (by decide) (pc' := 85) rfl ?_
    obtain ⟨v85, m85, h, hr⟩ := h
    refine tt_cv1I hV rfl rfl rfl (Wd_obj (hB _ _ rfl)) (Nat.le_of_ble_eq_true rfl) (Nat.le_of_ble_eq_true rfl) rfl hr (pc' := 88) rfl ?_
    obtain ⟨g6, h⟩ := h
    refine q_iast hV rfl (hB _ _ rfl) (Nat.le_of_ble_eq_true rfl) rfl g6 (pc' := 89) rfl ?_
    refine tt_iinc3 hV rfl rfl (pc' := 92) rfl ?_
    refine r_goto hV rfl (pc' := 2) (by decide) ?_
    exact h
  · replace h := h.2 (Int.not_le.mp hc)
    refine r_aload_n hV rfl rfl (pc' := 40) rfl ?_
    refine tt_getR hV (tg := 6) (ci := 6) (kf := 4) rfl rfl (by decide) (hB _ _ rfl) rfl (by decide) (pc' := 43) rfl ?_
    refine r_aload_n hV rfl rfl (pc' := 44) rfl ?_
    refine tt_getR hV (tg := 6) (ci := 6) (kf := 4) rfl rfl (by decide) (hB _ _ rfl) rfl (by decide) (pc' := 47) rfl ?_
    refine tt_getI hV (tg := 0) (ci := 8) (kf := 1) rfl rfl (by decide) (hB _ _ rfl) rfl (by decide) (pc' := 50) rfl ?_
    refine r_iload hV rfl rfl (pc' := 52) rfl ?_
    refine r_iload_n hV rfl rfl (pc' := 53) rfl ?_
    refine r_iload hV rfl rfl (pc' := 55) rfl ?_
    refine tt_ishr hV rfl (pc' := 56) rfl ?_
    refine tt_iconst hV rfl (pc' := 57) rfl ?_
    refine tt_iand hV rfl (pc' := 58) rfl ?_
    refine tt_iconst hV rfl (pc' := 59) rfl ?_
    refine tt_imul hV rfl (pc' := 60) rfl ?_
    refine vtI (y := 2 * (iA ((iSr l3 l4)) 1)) (by clear h; omega) ?_
    obtain ⟨v60, m60, h, hr⟩ := h
    refine tt_cs3I hV rfl rfl rfl (Nat.le_of_ble_eq_true rfl) (Nat.le_of_ble_eq_true rfl) rfl hr (pc' := 63) rfl ?_
    refine tt_putI hV (tg := 0) (ci := 8) (kf := 1) rfl rfl (Or.inl rfl) (hB _ _ rfl) rfl (by decide) rfl (pc' := 66) rfl ?_
    refine tt_iinc4 hV rfl rfl (pc' := 69) rfl ?_
    refine r_goto hV rfl (pc' := 24) (by decide) ?_
    exact h
theorem O_turnedBy_100w {X : Cx} {d : Nat} {x : Int} {l3 : Int} {l4 : Int} {m : Mm} {Q : Int → Mm → Prop} (hB : Bsh X.2.2.1) (h : S_everyone X d m (fun v106 m106 => (-2147483648 ≤ l4 ∧ l4 < 2147483648) ∧ (-2147483648 ≤ v106 ∧ v106 < 2147483648) ∧ (v106 < l4 → Q l3 m106) ∧ (l4 ≤ v106 → ((iA ((iSr l4 x)) 1) ≠ 0 → O_turnedBy_100 X (d + 1) x l3 (l4 + 1) m106 Q) ∧ ((iA ((iSr l4 x)) 1) = 0 → (0 ≤ l4 ∧ l4 < 64) ∧ (0 ≤ (iO l4 ((iSl 1 x))) ∧ (iO l4 ((iSl 1 x))) < 64) ∧ (-2147483648 ≤ (m106 71 l4) ∧ (m106 71 l4) < 2147483648) ∧ (-2147483648 ≤ (m106 71 ((iO l4 ((iSl 1 x))))) ∧ (m106 71 ((iO l4 ((iSl 1 x))))) < 2147483648) ∧ (m106 71 l4 = m106 71 ((iO l4 ((iSl 1 x)))) → O_turnedBy_100 X (d + 1) x l3 (l4 + 1) m106 Q) ∧ (m106 71 l4 ≠ m106 71 ((iO l4 ((iSl 1 x)))) → O_turnedBy_100 X (d + 1) x (l3 + 1) (l4 + 1) m106 Q))))) : O_turnedBy_100 X (d + 1) x l3 l4 m Q := by
  unfold O_turnedBy_100
  have hV : Clo (gP X.1 X.2.1) (d + 1) 62 5 false (Rq (gP X.1 X.2.1) (d + 1) 62 X.2.2.1 X.2.2.2 Q) := Rq_clo (q := mI62) rfl
  refine r_iload hV rfl rfl (pc' := 102) rfl ?_
  refine r_aload_n hV rfl rfl (pc' := 103) rfl ?_
  refine tt_getR hV (tg := 6) (ci := 6) (kf := 3) rfl rfl (by decide) (hB _ _ rfl) rfl (by decide) (pc' := 106) rfl ?_
  obtain ⟨v106, m106, h, hr⟩ := h
  refine tt_cv0I hV rfl rfl rfl (Wd_obj (hB _ _ rfl)) (Nat.le_of_ble_eq_true rfl) (Nat.le_of_ble_eq_true rfl) rfl hr (pc' := 109) rfl ?_
  obtain ⟨g7, h⟩ := h
  obtain ⟨g8, h⟩ := h
  refine tt_icmp_gt hV rfl g7 g8 (pt := 151) (by decide) (pf := 112) rfl (fun hc => ?_) (fun hc => ?_)
  · replace h := h.1 hc
    refine r_iload_n hV rfl rfl (pc' := 152) rfl ?_
    exact rq_ret (q := mI62) rfl rfl rfl h
  · replace h := h.2 (Int.not_lt.mp hc)
    refine r_iload hV rfl rfl (pc' := 114) rfl ?_
    refine r_iload_n hV rfl rfl (pc' := 115) rfl ?_
    refine tt_ishr hV rfl (pc' := 116) rfl ?_
    refine tt_iconst hV rfl (pc' := 117) rfl ?_
    refine tt_iand hV rfl (pc' := 118) rfl ?_
    refine tt_if_ne hV rfl (i32R _) (pt := 145) (by decide) (pf := 121) rfl (fun hc => ?_) (fun hc => ?_)
    · replace h := h.1 hc
      refine tt_iinc4 hV rfl rfl (pc' := 148) rfl ?_
      refine r_goto hV rfl (pc' := 100) (by decide) ?_
      exact h
    · replace h := h.2 (Decidable.not_not.mp hc)
      refine r_aload_n hV rfl rfl (pc' := 122) rfl ?_
      refine tt_getR hV (tg := 6) (ci := 6) (kf := 6) rfl rfl (by decide) (hB _ _ rfl) rfl (by decide) (pc' := 125) rfl ?_
      refine r_iload hV rfl rfl (pc' := 127) rfl ?_
      obtain ⟨g9, h⟩ := h
      refine q_iald hV rfl (hB _ _ rfl) (Nat.le_of_ble_eq_true rfl) rfl g9 (pc' := 128) rfl ?_
      refine r_aload_n hV rfl rfl (pc' := 129) rfl ?_
      refine tt_getR hV (tg := 6) (ci := 6) (kf := 6) rfl rfl (by decide) (hB _ _ rfl) rfl (by decide) (pc' := 132) rfl ?_
      refine r_iload hV rfl rfl (pc' := 134) rfl ?_
      refine tt_iconst hV rfl (pc' := 135) rfl ?_
      refine r_iload_n hV rfl rfl (pc' := 136) rfl ?_
      refine tt_ishl hV rfl (pc' := 137) rfl ?_
      refine tt_ior hV rfl (pc' := 138) rfl ?_
      obtain ⟨g10, h⟩ := h
      refine q_iald hV rfl (hB _ _ rfl) (Nat.le_of_ble_eq_true rfl) rfl g10 (pc' := 139) rfl ?_
      obtain ⟨g11, h⟩ := h
      obtain ⟨g12, h⟩ := h
      refine tt_icmp_eq hV rfl g11 g12 (pt := 145) (by decide) (pf := 142) rfl (fun hc => ?_) (fun hc => ?_)
      · replace h := h.1 hc
        refine tt_iinc4 hV rfl rfl (pc' := 148) rfl ?_
        refine r_goto hV rfl (pc' := 100) (by decide) ?_
        exact h
      · replace h := h.2 hc
        refine tt_iinc3 hV rfl rfl (pc' := 145) rfl ?_
        refine tt_iinc4 hV rfl rfl (pc' := 148) rfl ?_
        refine r_goto hV rfl (pc' := 100) (by decide) ?_
        exact h
theorem O_playAllw {X : Cx} {d : Nat} {x : Int} {y : Int} {m : Mm} {Q : Mm → Prop} (hB : Bsh X.2.2.1) (h : O_playAll_3 X (d + 1) x y 0 none none none m Q) : O_playAll X (d + 1) x y m Q := by
  unfold O_playAll
  have hV : Clo (gP X.1 X.2.1) (d + 1) 63 8 false (Ru0 (gP X.1 X.2.1) (d + 1) 63 X.2.2.1 X.2.2.2 Q) := Ru0_clo (q := mI63) rfl
  refine tt_iconst hV rfl (pc' := 1) rfl ?_
  refine tt_istore4 hV rfl rfl (pc' := 3) rfl ?_
  exact h
theorem O_playAll_3w {X : Cx} {d : Nat} {x : Int} {y : Int} {l4 : Int} {o5 : Option Int} {o6 : Option Int} {o7 : Option Int} {m : Mm} {Q : Mm → Prop} (hB : Bsh X.2.2.1) (h : (-2147483648 ≤ l4 ∧ l4 < 2147483648) ∧ (9 ≤ l4 → Q m) ∧ (l4 < 9 → T_copy X d 69 17 m (fun m27 => T_with X d (m27 17 1) x ((iDv l4 3)) m27 (fun v41 m41 => T_with X d v41 y ((iRm l4 3)) m41 (fun v47 m47 => S_sideAtEnd X d 69 (up m47 69 1 v47) (fun v61 m61 => O_gainBy X d v61 x ((iDv l4 3)) m61 (fun v79 m79 => (0 ≤ l4 ∧ l4 < 18) ∧ O_gainBy X d v61 y ((iRm l4 3)) (up m79 72 l4 v79) (fun v99 m99 => (0 ≤ l4 + 9 ∧ l4 + 9 < 18) ∧ O_playAll_3 X (d + 1) x y (l4 + 1) (some ((iDv l4 3))) (some ((iRm l4 3))) (some v61) (up m99 72 (l4 + 9) v99) Q)))))))) : O_playAll_3 X (d + 1) x y l4 o5 o6 o7 m Q := by
  unfold O_playAll_3
  have hV : Clo (gP X.1 X.2.1) (d + 1) 63 8 false (Ru0 (gP X.1 X.2.1) (d + 1) 63 X.2.2.1 X.2.2.2 Q) := Ru0_clo (q := mI63) rfl
  refine r_iload hV rfl rfl (pc' := 5) rfl ?_
  refine tt_bipush hV rfl (by decide) (pc' := 7) rfl ?_
  obtain ⟨g1, h⟩ := h
  refine tt_icmp_ge hV rfl g1 (by decide) (pt := 109) (by decide) (pf := 10) rfl (fun hc => ?_) (fun hc => ?_)
  · replace h := h.1 hc
    exact ru0_ret (q := mI63) rfl rfl rfl h
  · replace h := h.2 (Int.not_le.mp hc)
    refine r_iload hV rfl rfl (pc' := 12) rfl ?_
    refine tt_iconst hV rfl (pc' := 13) rfl ?_
    refine tt_idiv hV rfl (by decide) (pc' := 14) rfl ?_
    refine tt_istore5 hV rfl rfl (pc' := 16) rfl ?_
    refine r_iload hV rfl rfl (pc' := 18) rfl ?_
    refine tt_iconst hV rfl (pc' := 19) rfl ?_
    refine tt_irem hV rfl (by decide) (pc' := 20) rfl ?_
    refine tt_istore6 hV rfl rfl (pc' := 22) rfl ?_
    refine r_aload_n hV rfl rfl (pc' := 23) rfl ?_
    refine tt_getR hV (tg := 6) (ci := 6) (kf := 4) rfl rfl (by decide) (hB _ _ rfl) rfl (by decide) (pc' := 26) rfl ?_
    refine r_aload_n hV rfl rfl (pc' := 27) rfl ?_
    obtain ⟨m27, h, hr⟩ := h
    refine tt_cv1U hV rfl rfl rfl (Wd_obj (hB _ _ rfl)) (Nat.le_of_ble_eq_true rfl) (Nat.le_of_ble_eq_true rfl) rfl hr (pc' := 30) rfl ?_
    refine r_aload_n hV rfl rfl (pc' := 31) rfl ?_
    refine tt_getR hV (tg := 6) (ci := 6) (kf := 4) rfl rfl (by decide) (hB _ _ rfl) rfl (by decide) (pc' := 34) rfl ?_
    refine r_aload_n hV rfl rfl (pc' := 35) rfl ?_
    refine tt_getI hV (tg := 0) (ci := 8) (kf := 1) rfl rfl (by decide) (hB _ _ rfl) rfl (by decide) (pc' := 38) rfl ?_
    refine r_iload_n hV rfl rfl (pc' := 39) rfl ?_
    refine r_iload hV rfl rfl (pc' := 41) rfl ?_
    obtain ⟨v41, m41, h, hr⟩ := h
    refine tt_cs3I hV rfl rfl rfl (Nat.le_of_ble_eq_true rfl) (Nat.le_of_ble_eq_true rfl) rfl hr (pc' := 44) rfl ?_
    refine r_iload_n hV rfl rfl (pc' := 45) rfl ?_
    refine r_iload hV rfl rfl (pc' := 47) rfl ?_
    obtain ⟨v47, m47, h, hr⟩ := h
    refine tt_cs3I hV rfl rfl rfl (Nat.le_of_ble_eq_true rfl) (Nat.le_of_ble_eq_true rfl) rfl hr (pc' := 50) rfl ?_
    refine tt_putI hV (tg := 0) (ci := 8) (kf := 1) rfl rfl (Or.inl rfl) (hB _ _ rfl) rfl (by decide) rfl (pc' := 53) rfl ?_
    refine r_aload_n hV rfl rfl (pc' := 54) rfl ?_
    refine tt_getR hV (tg := 6) (ci := 6) (kf := 3) rfl rfl (by decide) (hB _ _ rfl) rfl (by decide) (pc' := 57) rfl ?_
    refine r_aload_n hV rfl rfl (pc' := 58) rfl ?_
    refine tt_getR hV (tg := 6) (ci := 6) (kf := 4) rfl rfl (by decide) (hB _ _ rfl) rfl (by decide) (pc' := 61) rfl ?_
    obtain ⟨v61, m61, h, hr⟩ := h
    refine tt_cv1I hV rfl rfl rfl (Wd_obj (hB _ _ rfl)) (Nat.le_of_ble_eq_true rfl) (Nat.le_of_ble_eq_true rfl) rfl hr (pc' := 64) rfl ?_
    refine tt_istore7 hV rfl rfl (pc' := 66) rfl ?_
    refine r_aload_n hV rfl rfl (pc' := 67) rfl ?_
    refine tt_getR hV (tg := 6) (ci := 6) (kf := 7) rfl rfl (by decide) (hB _ _ rfl) rfl (by decide) (pc' := 70) rfl ?_
    refine r_iload hV rfl rfl (pc' := 72) rfl ?_
    refine r_aload_n hV rfl rfl (pc' := 73) rfl ?_
    refine r_iload hV rfl rfl (pc' := 75) rfl ?_
    refine r_aload_n hV rfl rfl (pc' := 76) rfl ?_
    refine r_iload_n hV rfl rfl (pc' := 77) rfl ?_
    refine r_iload hV rfl rfl (pc' := 79) rfl ?_
    obtain ⟨v79, m79, h, hr⟩ := h
    refine tt_cv4I hV rfl rfl rfl (Wd_obj (hB _ _ rfl)) (Nat.le_of_ble_eq_true rfl) (Nat.le_of_ble_eq_true rfl) rfl hr (pc' := 82) rfl ?_
    obtain ⟨g2, h⟩ := h
    refine q_iast hV rfl (hB _ _ rfl) (Nat.le_of_ble_eq_true rfl) rfl g2 (pc' := 83) rfl ?_
    refine r_aload_n hV rfl rfl (pc' := 84) rfl ?_
    refine tt_getR hV (tg := 6) (ci := 6) (kf := 7) rfl rfl (by decide) (hB _ _ rfl) rfl (by decide) (pc' := 87) rfl ?_
    refine tt_bipush hV rfl (by decide) (pc' := 89) rfl ?_
    refine r_iload hV rfl rfl (pc' := 91) rfl ?_
    refine tt_iadd hV rfl (pc' := 92) rfl ?_
    refine vtI (y := l4 + 9) (by clear h; omega) ?_
    refine r_aload_n hV rfl rfl (pc' := 93) rfl ?_
    refine r_iload hV rfl rfl (pc' := 95) rfl ?_
    refine r_aload_n hV rfl rfl (pc' := 96) rfl ?_
    refine r_iload_n hV rfl rfl (pc' := 97) rfl ?_
    refine r_iload hV rfl rfl (pc' := 99) rfl ?_
    obtain ⟨v99, m99, h, hr⟩ := h
    refine tt_cv4I hV rfl rfl rfl (Wd_obj (hB _ _ rfl)) (Nat.le_of_ble_eq_true rfl) (Nat.le_of_ble_eq_true rfl) rfl hr (pc' := 102) rfl ?_
    obtain ⟨g3, h⟩ := h
    refine q_iast hV rfl (hB _ _ rfl) (Nat.le_of_ble_eq_true rfl) rfl g3 (pc' := 103) rfl ?_
    refine tt_iinc4 hV rfl rfl (pc' := 106) rfl ?_
    refine r_goto hV rfl (pc' := 3) (by decide) ?_
    exact h
theorem O_gainByw {X : Cx} {d : Nat} {x : Int} {y : Int} {z : Int} {m : Mm} {Q : Int → Mm → Prop} (hB : Bsh X.2.2.1) (h : T_leanOf X d 17 y m (fun v3 m3 => (-2147483648 ≤ x ∧ x < 2147483648) ∧ (-2147483648 ≤ v3 ∧ v3 < 2147483648) ∧ (x ≠ v3 → (-2147483648 ≤ z ∧ z < 2147483648) ∧ (z = 1 → O_gainBy_26 X (d + 1) x y z 0 m3 Q) ∧ (z ≠ 1 → O_gainBy_26 X (d + 1) x y z (-1) m3 Q)) ∧ (x = v3 → (-2147483648 ≤ z ∧ z < 2147483648) ∧ (z = 1 → O_gainBy_26 X (d + 1) x y z 6 m3 Q) ∧ (z ≠ 1 → O_gainBy_26 X (d + 1) x y z 5 m3 Q)))) : O_gainBy X (d + 1) x y z m Q := by
  unfold O_gainBy
  have hV : Clo (gP X.1 X.2.1) (d + 1) 64 6 false (Rq (gP X.1 X.2.1) (d + 1) 64 X.2.2.1 X.2.2.2 Q) := Rq_clo (q := mI64) rfl
  refine r_iload_n hV rfl rfl (pc' := 1) rfl ?_
  refine r_aload_n hV rfl rfl (pc' := 2) rfl ?_
  refine r_iload_n hV rfl rfl (pc' := 3) rfl ?_
  obtain ⟨v3, m3, h, hr⟩ := h
  refine tt_cv1I hV rfl rfl rfl (Wd_obj (hB _ _ rfl)) (Nat.le_of_ble_eq_true rfl) (Nat.le_of_ble_eq_true rfl) rfl hr (pc' := 6) rfl ?_
  obtain ⟨g1, h⟩ := h
  obtain ⟨g2, h⟩ := h
  refine tt_icmp_ne hV rfl g1 g2 (pt := 14) (by decide) (pf := 9) rfl (fun hc => ?_) (fun hc => ?_)
  · replace h := h.1 hc
    refine tt_iconst hV rfl (pc' := 15) rfl ?_
    refine tt_istore5 hV rfl rfl (pc' := 17) rfl ?_
    refine r_iload hV rfl rfl (pc' := 19) rfl ?_
    refine tt_iconst hV rfl (pc' := 20) rfl ?_
    obtain ⟨g3, h⟩ := h
    refine tt_icmp_eq hV rfl g3 (by decide) (pt := 26) (by decide) (pf := 23) rfl (fun hc => ?_) (fun hc => ?_)
    · replace h := h.1 hc
      exact h
    · replace h := h.2 hc
      refine tz_iinc5 hV rfl rfl (y := -1) (by clear h; omega) (pc' := 26) rfl ?_
      exact h
  · replace h := h.2 (Decidable.not_not.mp hc)
    refine tt_bipush hV rfl (by decide) (pc' := 11) rfl ?_
    refine r_goto hV rfl (pc' := 15) (by decide) ?_
    refine tt_istore5 hV rfl rfl (pc' := 17) rfl ?_
    refine r_iload hV rfl rfl (pc' := 19) rfl ?_
    refine tt_iconst hV rfl (pc' := 20) rfl ?_
    obtain ⟨g4, h⟩ := h
    refine tt_icmp_eq hV rfl g4 (by decide) (pt := 26) (by decide) (pf := 23) rfl (fun hc => ?_) (fun hc => ?_)
    · replace h := h.1 hc
      exact h
    · replace h := h.2 hc
      refine tz_iinc5 hV rfl rfl (y := 5) (by clear h; omega) (pc' := 26) rfl ?_
      exact h
theorem O_gainBy_26w {X : Cx} {d : Nat} {x : Int} {y : Int} {z : Int} {l5 : Int} {m : Mm} {Q : Int → Mm → Prop} (hB : Bsh X.2.2.1) (h : T_isAboard X d 69 y m (fun v31 m31 => (-2147483648 ≤ v31 ∧ v31 < 2147483648) ∧ (v31 = 0 → Q (l5 - 2) m31) ∧ (v31 ≠ 0 → Q l5 m31))) : O_gainBy_26 X (d + 1) x y z l5 m Q := by
  unfold O_gainBy_26
  have hV : Clo (gP X.1 X.2.1) (d + 1) 64 6 false (Rq (gP X.1 X.2.1) (d + 1) 64 X.2.2.1 X.2.2.2 Q) := Rq_clo (q := mI64) rfl
  refine r_aload_n hV rfl rfl (pc' := 27) rfl ?_
  refine tt_getR hV (tg := 6) (ci := 6) (kf := 4) rfl rfl (by decide) (hB _ _ rfl) rfl (by decide) (pc' := 30) rfl ?_
  refine r_iload_n hV rfl rfl (pc' := 31) rfl ?_
  obtain ⟨v31, m31, h, hr⟩ := h
  refine tt_cv1I hV rfl rfl rfl (Wd_obj (hB _ _ rfl)) (Nat.le_of_ble_eq_true rfl) (Nat.le_of_ble_eq_true rfl) rfl hr (pc' := 34) rfl ?_
  obtain ⟨g5, h⟩ := h
  refine tt_if_eq hV rfl g5 (pt := 42) (by decide) (pf := 37) rfl (fun hc => ?_) (fun hc => ?_)
  · replace h := h.1 hc
    refine r_iload hV rfl rfl (pc' := 44) rfl ?_
    refine tt_iconst hV rfl (pc' := 45) rfl ?_
    refine tt_isub hV rfl (pc' := 46) rfl ?_
    exact rq_ret (q := mI64) rfl rfl rfl h
  · replace h := h.2 hc
    refine r_iload hV rfl rfl (pc' := 39) rfl ?_
    refine r_goto hV rfl (pc' := 46) (by decide) ?_
    exact rq_ret (q := mI64) rfl rfl rfl h
