/-! ===== what is wanted at a place ===== -/
theorem V_feedw {X : Cx} {d : Nat} {x : Int} {y : Int} {z : Int} {u : Int} {v : Int} {m : Mm} {Q : Int → Mm → Prop} (hB : Bsh X.2.2.1) (h : B_signsIn X d x m (fun v1 m1 => B_signsIn X d y m1 (fun v5 m5 => B_signsIn X d z m5 (fun v10 m10 => B_signsIn X d u m10 (fun v16 m16 => B_signsIn X d v m16 (fun v22 m22 => (-2147483648 ≤ (m22 1 1 + v1 + v5 + v10 + v16 + v22) ∧ (m22 1 1 + v1 + v5 + v10 + v16 + v22) < 2147483648) ∧ (m22 1 1 + v1 + v5 + v10 + v16 + v22 ≤ 240 → B_take X d x m22 (fun m51 => B_take X d y m51 (fun m59 => B_take X d z m59 (fun m67 => B_take X d u m67 (fun m76 => B_take X d v m76 (fun m85 => Q (m85 1 1) m85)))))) ∧ (240 < m22 1 1 + v1 + v5 + v10 + v16 + v22 → Q (-1) m22))))))) : V_feed X (d + 1) x y z u v m Q := by
  unfold V_feed
  have hV : Clo (gP X.1 X.2.1) (d + 1) 112 7 false (Rq (gP X.1 X.2.1) (d + 1) 112 X.2.2.1 X.2.2.2 Q) := Rq_clo (q := mI112) rfl
  refine r_iload_n hV rfl rfl (pc' := 1) rfl ?_
  obtain ⟨v1, m1, h, hr⟩ := h
  refine tt_cs1I hV rfl rfl rfl (Nat.le_of_ble_eq_true rfl) (Nat.le_of_ble_eq_true rfl) rfl hr (pc' := 4) rfl ?_
  refine r_iload_n hV rfl rfl (pc' := 5) rfl ?_
  obtain ⟨v5, m5, h, hr⟩ := h
  refine tt_cs1I hV rfl rfl rfl (Nat.le_of_ble_eq_true rfl) (Nat.le_of_ble_eq_true rfl) rfl hr (pc' := 8) rfl ?_
  refine tt_iadd hV rfl (pc' := 9) rfl ?_
  refine r_iload_n hV rfl rfl (pc' := 10) rfl ?_
  obtain ⟨v10, m10, h, hr⟩ := h
  refine tt_cs1I hV rfl rfl rfl (Nat.le_of_ble_eq_true rfl) (Nat.le_of_ble_eq_true rfl) rfl hr (pc' := 13) rfl ?_
  refine tt_iadd hV rfl (pc' := 14) rfl ?_
  refine r_iload hV rfl rfl (pc' := 16) rfl ?_
  obtain ⟨v16, m16, h, hr⟩ := h
  refine tt_cs1I hV rfl rfl rfl (Nat.le_of_ble_eq_true rfl) (Nat.le_of_ble_eq_true rfl) rfl hr (pc' := 19) rfl ?_
  refine tt_iadd hV rfl (pc' := 20) rfl ?_
  refine r_iload hV rfl rfl (pc' := 22) rfl ?_
  obtain ⟨v22, m22, h, hr⟩ := h
  refine tt_cs1I hV rfl rfl rfl (Nat.le_of_ble_eq_true rfl) (Nat.le_of_ble_eq_true rfl) rfl hr (pc' := 25) rfl ?_
  refine tt_iadd hV rfl (pc' := 26) rfl ?_
  refine tt_istore6 hV rfl rfl (pc' := 28) rfl ?_
  refine r_aload_n hV rfl rfl (pc' := 29) rfl ?_
  refine tt_getR hV (tg := 6) (ci := 11) (kf := 0) rfl rfl (by decide) (hB _ _ rfl) rfl (by decide) (pc' := 32) rfl ?_
  refine tt_getI hV (tg := 0) (ci := 9) (kf := 1) rfl rfl (by decide) (hB _ _ rfl) rfl (by decide) (pc' := 35) rfl ?_
  refine r_iload hV rfl rfl (pc' := 37) rfl ?_
  refine tt_iadd hV rfl (pc' := 38) rfl ?_
  refine vtI (y := m22 1 1 + v1 + v5 + v10 + v16 + v22) (by clear h; omega) ?_
  refine tt_sipush hV rfl (by decide) (pc' := 41) rfl ?_
  obtain ⟨g1, h⟩ := h
  refine tt_icmp_le hV rfl g1 (by decide) (pt := 46) (by decide) (pf := 44) rfl (fun hc => ?_) (fun hc => ?_)
  · replace h := h.1 hc
    refine r_aload_n hV rfl rfl (pc' := 47) rfl ?_
    refine tt_getR hV (tg := 6) (ci := 11) (kf := 0) rfl rfl (by decide) (hB _ _ rfl) rfl (by decide) (pc' := 50) rfl ?_
    refine r_iload_n hV rfl rfl (pc' := 51) rfl ?_
    obtain ⟨m51, h, hr⟩ := h
    refine tt_cv1U hV rfl rfl rfl (Wd_obj (hB _ _ rfl)) (Nat.le_of_ble_eq_true rfl) (Nat.le_of_ble_eq_true rfl) rfl hr (pc' := 54) rfl ?_
    refine r_aload_n hV rfl rfl (pc' := 55) rfl ?_
    refine tt_getR hV (tg := 6) (ci := 11) (kf := 0) rfl rfl (by decide) (hB _ _ rfl) rfl (by decide) (pc' := 58) rfl ?_
    refine r_iload_n hV rfl rfl (pc' := 59) rfl ?_
    obtain ⟨m59, h, hr⟩ := h
    refine tt_cv1U hV rfl rfl rfl (Wd_obj (hB _ _ rfl)) (Nat.le_of_ble_eq_true rfl) (Nat.le_of_ble_eq_true rfl) rfl hr (pc' := 62) rfl ?_
    refine r_aload_n hV rfl rfl (pc' := 63) rfl ?_
    refine tt_getR hV (tg := 6) (ci := 11) (kf := 0) rfl rfl (by decide) (hB _ _ rfl) rfl (by decide) (pc' := 66) rfl ?_
    refine r_iload_n hV rfl rfl (pc' := 67) rfl ?_
    obtain ⟨m67, h, hr⟩ := h
    refine tt_cv1U hV rfl rfl rfl (Wd_obj (hB _ _ rfl)) (Nat.le_of_ble_eq_true rfl) (Nat.le_of_ble_eq_true rfl) rfl hr (pc' := 70) rfl ?_
    refine r_aload_n hV rfl rfl (pc' := 71) rfl ?_
    refine tt_getR hV (tg := 6) (ci := 11) (kf := 0) rfl rfl (by decide) (hB _ _ rfl) rfl (by decide) (pc' := 74) rfl ?_
    refine r_iload hV rfl rfl (pc' := 76) rfl ?_
    obtain ⟨m76, h, hr⟩ := h
    refine tt_cv1U hV rfl rfl rfl (Wd_obj (hB _ _ rfl)) (Nat.le_of_ble_eq_true rfl) (Nat.le_of_ble_eq_true rfl) rfl hr (pc' := 79) rfl ?_
    refine r_aload_n hV rfl rfl (pc' := 80) rfl ?_
    refine tt_getR hV (tg := 6) (ci := 11) (kf := 0) rfl rfl (by decide) (hB _ _ rfl) rfl (by decide) (pc' := 83) rfl ?_
    refine r_iload hV rfl rfl (pc' := 85) rfl ?_
    obtain ⟨m85, h, hr⟩ := h
    refine tt_cv1U hV rfl rfl rfl (Wd_obj (hB _ _ rfl)) (Nat.le_of_ble_eq_true rfl) (Nat.le_of_ble_eq_true rfl) rfl hr (pc' := 88) rfl ?_
    refine r_aload_n hV rfl rfl (pc' := 89) rfl ?_
    refine tt_getR hV (tg := 6) (ci := 11) (kf := 0) rfl rfl (by decide) (hB _ _ rfl) rfl (by decide) (pc' := 92) rfl ?_
    refine tt_getI hV (tg := 0) (ci := 9) (kf := 1) rfl rfl (by decide) (hB _ _ rfl) rfl (by decide) (pc' := 95) rfl ?_
    exact rq_ret (q := mI112) rfl rfl rfl h
  · replace h := h.2 (Int.not_le.mp hc)
    refine tt_iconst hV rfl (pc' := 45) rfl ?_
    exact rq_ret (q := mI112) rfl rfl rfl h
theorem V_endw {X : Cx} {d : Nat} {x : Int} {m : Mm} {Q : Int → Mm → Prop} (hB : Bsh X.2.2.1) (h : (-2147483648 ≤ x ∧ x < 2147483648) ∧ (x < 0 → Q 0 m) ∧ (0 ≤ x → (-2147483648 ≤ (m 1 1) ∧ (m 1 1) < 2147483648) ∧ (x ≤ m 1 1 → Q 1 (up m 1 1 x)) ∧ (m 1 1 < x → Q 0 m))) : V_end X d x m Q := by
  unfold V_end
  have hV : Clo (gP X.1 X.2.1) d 113 2 false (Rq (gP X.1 X.2.1) d 113 X.2.2.1 X.2.2.2 Q) := Rq_clo (q := mI113) rfl
  refine r_iload_n hV rfl rfl (pc' := 1) rfl ?_
  obtain ⟨g1, h⟩ := h
  refine tt_if_lt hV rfl g1 (pt := 15) (by decide) (pf := 4) rfl (fun hc => ?_) (fun hc => ?_)
  · replace h := h.1 hc
    refine tt_iconst hV rfl (pc' := 16) rfl ?_
    exact rq_ret (q := mI113) rfl rfl rfl h
  · replace h := h.2 (Int.not_lt.mp hc)
    refine r_iload_n hV rfl rfl (pc' := 5) rfl ?_
    refine r_aload_n hV rfl rfl (pc' := 6) rfl ?_
    refine tt_getR hV (tg := 6) (ci := 11) (kf := 0) rfl rfl (by decide) (hB _ _ rfl) rfl (by decide) (pc' := 9) rfl ?_
    refine tt_getI hV (tg := 0) (ci := 9) (kf := 1) rfl rfl (by decide) (hB _ _ rfl) rfl (by decide) (pc' := 12) rfl ?_
    obtain ⟨g2, h⟩ := h
    refine tt_icmp_le hV rfl g1 g2 (pt := 17) (by decide) (pf := 15) rfl (fun hc => ?_) (fun hc => ?_)
    · replace h := h.1 hc
      refine r_aload_n hV rfl rfl (pc' := 18) rfl ?_
      refine tt_getR hV (tg := 6) (ci := 11) (kf := 0) rfl rfl (by decide) (hB _ _ rfl) rfl (by decide) (pc' := 21) rfl ?_
      refine r_iload_n hV rfl rfl (pc' := 22) rfl ?_
      refine tt_putI hV (tg := 0) (ci := 9) (kf := 1) rfl rfl (Or.inl rfl) (hB _ _ rfl) rfl (by decide) rfl (pc' := 25) rfl ?_
      refine tt_iconst hV rfl (pc' := 26) rfl ?_
      exact rq_ret (q := mI113) rfl rfl rfl h
    · replace h := h.2 (Int.not_le.mp hc)
      refine tt_iconst hV rfl (pc' := 16) rfl ?_
      exact rq_ret (q := mI113) rfl rfl rfl h
theorem V_faultw {X : Cx} {d : Nat} {x : Int} {m : Mm} {Q : Int → Mm → Prop} (hB : Bsh X.2.2.1) (h : (-2147483648 ≤ x ∧ x < 2147483648) ∧ (x ≠ 0 → (x ≠ 1 → Q (-2) m) ∧ (x = 1 → P_read X d m (fun v25 m25 => Q v25 m25))) ∧ (x = 0 → ∃ c2 : Nat, cO c2 ∧ (m 0 7 = (c2 : Int)) ∧ R_read X d c2 m (fun v12 m12 => Q v12 m12))) : V_fault X (d + 1) x m Q := by
  unfold V_fault
  have hV : Clo (gP X.1 X.2.1) (d + 1) 114 2 false (Rq (gP X.1 X.2.1) (d + 1) 114 X.2.2.1 X.2.2.2 Q) := Rq_clo (q := mI114) rfl
  refine r_iload_n hV rfl rfl (pc' := 1) rfl ?_
  obtain ⟨g1, h⟩ := h
  refine tt_if_ne hV rfl g1 (pt := 16) (by decide) (pf := 4) rfl (fun hc => ?_) (fun hc => ?_)
  · replace h := h.1 hc
    refine r_iload_n hV rfl rfl (pc' := 17) rfl ?_
    refine tt_iconst hV rfl (pc' := 18) rfl ?_
    refine tt_icmp_ne hV rfl g1 (by decide) (pt := 31) (by decide) (pf := 21) rfl (fun hc => ?_) (fun hc => ?_)
    · replace h := h.1 hc
      refine tt_bipush hV rfl (by decide) (pc' := 33) rfl ?_
      exact rq_ret (q := mI114) rfl rfl rfl h
    · replace h := h.2 (Decidable.not_not.mp hc)
      refine r_aload_n hV rfl rfl (pc' := 22) rfl ?_
      refine tt_getR hV (tg := 6) (ci := 11) (kf := 2) rfl rfl (by decide) (hB _ _ rfl) rfl (by decide) (pc' := 25) rfl ?_
      obtain ⟨v25, m25, h, hr⟩ := h
      refine tt_cv0I hV rfl rfl rfl (Wd_obj (hB _ _ rfl)) (Nat.le_of_ble_eq_true rfl) (Nat.le_of_ble_eq_true rfl) rfl hr (pc' := 28) rfl ?_
      refine r_goto hV rfl (pc' := 33) (by decide) ?_
      exact rq_ret (q := mI114) rfl rfl rfl h
  · replace h := h.2 (Decidable.not_not.mp hc)
    refine r_aload_n hV rfl rfl (pc' := 5) rfl ?_
    refine tt_getR hV (tg := 6) (ci := 11) (kf := 1) rfl rfl (by decide) (hB _ _ rfl) rfl (by decide) (pc' := 8) rfl ?_
    refine r_aload_n hV rfl rfl (pc' := 9) rfl ?_
    obtain ⟨c2, hc2, h⟩ := h
    have hc2s := csh_of hB hc2
    obtain ⟨g2, h⟩ := h
    refine tt_getP hV (tg := 0) (ci := 11) (kf := 7) rfl rfl (by decide) (hB _ _ rfl) rfl (by decide) (b := c2) g2 (pc' := 12) rfl ?_
    obtain ⟨v12, m12, h, hr⟩ := h
    refine tt_cv1I hV rfl rfl rfl (Wd_obj (hB _ _ rfl)) (Nat.le_of_ble_eq_true rfl) (Nat.le_of_ble_eq_true rfl) rfl hr (pc' := 15) rfl ?_
    exact rq_ret (q := mI114) rfl rfl rfl h
theorem V_rulew {X : Cx} {d : Nat} {x : Int} {m : Mm} {Q : Int → Mm → Prop} (hB : Bsh X.2.2.1) (h : V_hasCanton X d m (fun v1 m1 => (-2147483648 ≤ v1 ∧ v1 < 2147483648) ∧ (v1 = 0 → Q (-1) m1) ∧ (v1 ≠ 0 → (-2147483648 ≤ x ∧ x < 2147483648) ∧ (x < 0 → Q (-1) m1) ∧ (0 ≤ x → (x ≤ 4 → (x ≠ 4 → ∃ c : Nat, cO c ∧ (m1 0 6 = (c : Int)) ∧ (0 ≤ x ∧ x < 5) ∧ Q (m1 (c + 1) x) m1) ∧ (x = 4 → Q (m1 17 6) m1)) ∧ (4 < x → Q (-1) m1))))) : V_rule X (d + 1) x m Q := by
  unfold V_rule
  have hV : Clo (gP X.1 X.2.1) (d + 1) 116 2 false (Rq (gP X.1 X.2.1) (d + 1) 116 X.2.2.1 X.2.2.2 Q) := Rq_clo (q := mI116) rfl
  refine r_aload_n hV rfl rfl (pc' := 1) rfl ?_
  obtain ⟨v1, m1, h, hr⟩ := h
  refine tt_cv0I hV rfl rfl rfl (Wd_obj (hB _ _ rfl)) (Nat.le_of_ble_eq_true rfl) (Nat.le_of_ble_eq_true rfl) rfl hr (pc' := 4) rfl ?_
  obtain ⟨g1, h⟩ := h
  refine tt_if_eq hV rfl g1 (pt := 16) (by decide) (pf := 7) rfl (fun hc => ?_) (fun hc => ?_)
  · replace h := h.1 hc
    refine tt_iconst hV rfl (pc' := 17) rfl ?_
    exact rq_ret (q := mI116) rfl rfl rfl h
  · replace h := h.2 hc
    refine r_iload_n hV rfl rfl (pc' := 8) rfl ?_
    obtain ⟨g2, h⟩ := h
    refine tt_if_lt hV rfl g2 (pt := 16) (by decide) (pf := 11) rfl (fun hc => ?_) (fun hc => ?_)
    · replace h := h.1 hc
      refine tt_iconst hV rfl (pc' := 17) rfl ?_
      exact rq_ret (q := mI116) rfl rfl rfl h
    · replace h := h.2 (Int.not_lt.mp hc)
      refine r_iload_n hV rfl rfl (pc' := 12) rfl ?_
      refine tt_iconst hV rfl (pc' := 13) rfl ?_
      refine tt_icmp_le hV rfl g2 (by decide) (pt := 18) (by decide) (pf := 16) rfl (fun hc => ?_) (fun hc => ?_)
      · replace h := h.1 hc
        refine r_iload_n hV rfl rfl (pc' := 19) rfl ?_
        refine tt_iconst hV rfl (pc' := 20) rfl ?_
        refine tt_icmp_ne hV rfl g2 (by decide) (pt := 33) (by decide) (pf := 23) rfl (fun hc => ?_) (fun hc => ?_)
        · replace h := h.1 hc
          refine r_aload_n hV rfl rfl (pc' := 34) rfl ?_
          obtain ⟨c, hc, h⟩ := h
          have hcs := csh_of hB hc
          obtain ⟨g3, h⟩ := h
          refine tt_getP hV (tg := 0) (ci := 11) (kf := 6) rfl rfl (by decide) (hB _ _ rfl) rfl (by decide) (b := c) g3 (pc' := 37) rfl ?_
          refine tt_getR hV (tg := 10) (ci := 0) (kf := 0) rfl rfl (by decide) hcs.1 rfl (by decide) (pc' := 40) rfl ?_
          refine r_iload_n hV rfl rfl (pc' := 41) rfl ?_
          obtain ⟨g4, h⟩ := h
          refine q_iald hV rfl hcs.2.1 (Nat.le_of_ble_eq_true rfl) rfl g4 (pc' := 42) rfl ?_
          exact rq_ret (q := mI116) rfl rfl rfl h
        · replace h := h.2 (Decidable.not_not.mp hc)
          refine r_aload_n hV rfl rfl (pc' := 24) rfl ?_
          refine tt_getR hV (tg := 6) (ci := 11) (kf := 8) rfl rfl (by decide) (hB _ _ rfl) rfl (by decide) (pc' := 27) rfl ?_
          refine tt_getI hV (tg := 0) (ci := 8) (kf := 6) rfl rfl (by decide) (hB _ _ rfl) rfl (by decide) (pc' := 30) rfl ?_
          refine r_goto hV rfl (pc' := 42) (by decide) ?_
          exact rq_ret (q := mI116) rfl rfl rfl h
      · replace h := h.2 (Int.not_le.mp hc)
        refine tt_iconst hV rfl (pc' := 17) rfl ?_
        exact rq_ret (q := mI116) rfl rfl rfl h
theorem V_bumpw {X : Cx} {d : Nat} {x : Int} {y : Int} {m : Mm} {Q : Int → Mm → Prop} (hB : Bsh X.2.2.1) (h : V_isBump X d x m (fun v2 m2 => (-2147483648 ≤ v2 ∧ v2 < 2147483648) ∧ (v2 = 0 → Q (-1) m2) ∧ (v2 ≠ 0 → (-2147483648 ≤ y ∧ y < 2147483648) ∧ (y < 0 → Q (-1) m2) ∧ (0 ≤ y → (y ≤ 4 → (y ≠ 4 → ∃ c : Nat, cO c ∧ (m2 0 6 = (c : Int)) ∧ K_ofBump X d c x y m2 (fun v44 m44 => Q v44 m44)) ∧ (y = 4 → Q ((iA ((iSr (m2 17 5) x)) 1)) m2)) ∧ (4 < y → Q (-1) m2))))) : V_bump X (d + 1) x y m Q := by
  unfold V_bump
  have hV : Clo (gP X.1 X.2.1) (d + 1) 117 3 false (Rq (gP X.1 X.2.1) (d + 1) 117 X.2.2.1 X.2.2.2 Q) := Rq_clo (q := mI117) rfl
  refine r_aload_n hV rfl rfl (pc' := 1) rfl ?_
  refine r_iload_n hV rfl rfl (pc' := 2) rfl ?_
  obtain ⟨v2, m2, h, hr⟩ := h
  refine tt_cv1I hV rfl rfl rfl (Wd_obj (hB _ _ rfl)) (Nat.le_of_ble_eq_true rfl) (Nat.le_of_ble_eq_true rfl) rfl hr (pc' := 5) rfl ?_
  obtain ⟨g1, h⟩ := h
  refine tt_if_eq hV rfl g1 (pt := 17) (by decide) (pf := 8) rfl (fun hc => ?_) (fun hc => ?_)
  · replace h := h.1 hc
    refine tt_iconst hV rfl (pc' := 18) rfl ?_
    exact rq_ret (q := mI117) rfl rfl rfl h
  · replace h := h.2 hc
    refine r_iload_n hV rfl rfl (pc' := 9) rfl ?_
    obtain ⟨g2, h⟩ := h
    refine tt_if_lt hV rfl g2 (pt := 17) (by decide) (pf := 12) rfl (fun hc => ?_) (fun hc => ?_)
    · replace h := h.1 hc
      refine tt_iconst hV rfl (pc' := 18) rfl ?_
      exact rq_ret (q := mI117) rfl rfl rfl h
    · replace h := h.2 (Int.not_lt.mp hc)
      refine r_iload_n hV rfl rfl (pc' := 13) rfl ?_
      refine tt_iconst hV rfl (pc' := 14) rfl ?_
      refine tt_icmp_le hV rfl g2 (by decide) (pt := 19) (by decide) (pf := 17) rfl (fun hc => ?_) (fun hc => ?_)
      · replace h := h.1 hc
        refine r_iload_n hV rfl rfl (pc' := 20) rfl ?_
        refine tt_iconst hV rfl (pc' := 21) rfl ?_
        refine tt_icmp_ne hV rfl g2 (by decide) (pt := 38) (by decide) (pf := 24) rfl (fun hc => ?_) (fun hc => ?_)
        · replace h := h.1 hc
          refine r_aload_n hV rfl rfl (pc' := 39) rfl ?_
          obtain ⟨c, hc, h⟩ := h
          have hcs := csh_of hB hc
          obtain ⟨g3, h⟩ := h
          refine tt_getP hV (tg := 0) (ci := 11) (kf := 6) rfl rfl (by decide) (hB _ _ rfl) rfl (by decide) (b := c) g3 (pc' := 42) rfl ?_
          refine r_iload_n hV rfl rfl (pc' := 43) rfl ?_
          refine r_iload_n hV rfl rfl (pc' := 44) rfl ?_
          obtain ⟨v44, m44, h, hr⟩ := h
          refine tt_cv2I hV rfl rfl rfl (Wd_obj hcs.1) (Nat.le_of_ble_eq_true rfl) (Nat.le_of_ble_eq_true rfl) rfl hr (pc' := 47) rfl ?_
          exact rq_ret (q := mI117) rfl rfl rfl h
        · replace h := h.2 (Decidable.not_not.mp hc)
          refine r_aload_n hV rfl rfl (pc' := 25) rfl ?_
          refine tt_getR hV (tg := 6) (ci := 11) (kf := 8) rfl rfl (by decide) (hB _ _ rfl) rfl (by decide) (pc' := 28) rfl ?_
          refine tt_getI hV (tg := 0) (ci := 8) (kf := 5) rfl rfl (by decide) (hB _ _ rfl) rfl (by decide) (pc' := 31) rfl ?_
          refine r_iload_n hV rfl rfl (pc' := 32) rfl ?_
          refine tt_ishr hV rfl (pc' := 33) rfl ?_
          refine tt_iconst hV rfl (pc' := 34) rfl ?_
          refine tt_iand hV rfl (pc' := 35) rfl ?_
          refine r_goto hV rfl (pc' := 47) (by decide) ?_
          exact rq_ret (q := mI117) rfl rfl rfl h
      · replace h := h.2 (Int.not_le.mp hc)
        refine tt_iconst hV rfl (pc' := 18) rfl ?_
        exact rq_ret (q := mI117) rfl rfl rfl h
theorem V_memberw {X : Cx} {d : Nat} {x : Int} {y : Int} {m : Mm} {Q : Int → Mm → Prop} (hB : Bsh X.2.2.1) (h : V_isMember X d x m (fun v2 m2 => (-2147483648 ≤ v2 ∧ v2 < 2147483648) ∧ (v2 = 0 → False) ∧ (v2 ≠ 0 → (-2147483648 ≤ y ∧ y < 2147483648) ∧ (y < 0 → False) ∧ (0 ≤ y → (y ≤ 6 → (y = 0 → T_weightOf X d 17 x m2 (fun v73 m73 => Q v73 m73)) ∧ (y = 1 → T_leanOf X d 17 x m2 (fun v82 m82 => Q v82 m82)) ∧ (y = 2 → T_heelsOf X d 17 x m2 (fun v91 m91 => Q v91 m91)) ∧ (y = 3 → ∃ c : Nat, cO c ∧ (m2 0 6 = (c : Int)) ∧ K_sightOf X d c x m2 (fun v100 m100 => Q v100 m100)) ∧ (y = 4 → T_seatOf X d 17 x m2 (fun v109 m109 => Q v109 m109)) ∧ (y = 5 → T_isAboard X d 17 x m2 (fun v118 m118 => (-2147483648 ≤ v118 ∧ v118 < 2147483648) ∧ (v118 = 0 → Q 0 m118) ∧ (v118 ≠ 0 → Q 1 m118))) ∧ (y ≠ 0 ∧ y ≠ 1 ∧ y ≠ 2 ∧ y ≠ 3 ∧ y ≠ 4 ∧ y ≠ 5 → S_pushOf X d 17 x m2 (fun v139 m139 => Q v139 m139))) ∧ (6 < y → False))))) : V_member X (d + 1) x y m Q := by
  unfold V_member
  have hV : Clo (gP X.1 X.2.1) (d + 1) 118 3 false (Rq (gP X.1 X.2.1) (d + 1) 118 X.2.2.1 X.2.2.2 Q) := Rq_clo (q := mI118) rfl
  refine r_aload_n hV rfl rfl (pc' := 1) rfl ?_
  refine r_iload_n hV rfl rfl (pc' := 2) rfl ?_
  obtain ⟨v2, m2, h, hr⟩ := h
  refine tt_cv1I hV rfl rfl rfl (Wd_obj (hB _ _ rfl)) (Nat.le_of_ble_eq_true rfl) (Nat.le_of_ble_eq_true rfl) rfl hr (pc' := 5) rfl ?_
  obtain ⟨g1, h⟩ := h
  refine tt_if_eq hV rfl g1 (pt := 18) (by decide) (pf := 8) rfl (fun hc => ?_) (fun hc => ?_)
  · replace h := h.1 hc
    exact h.elim
  · replace h := h.2 hc
    refine r_iload_n hV rfl rfl (pc' := 9) rfl ?_
    obtain ⟨g2, h⟩ := h
    refine tt_if_lt hV rfl g2 (pt := 18) (by decide) (pf := 12) rfl (fun hc => ?_) (fun hc => ?_)
    · replace h := h.1 hc
      exact h.elim
    · replace h := h.2 (Int.not_lt.mp hc)
      refine r_iload_n hV rfl rfl (pc' := 13) rfl ?_
      refine tt_bipush hV rfl (by decide) (pc' := 15) rfl ?_
      refine tt_icmp_le hV rfl g2 (by decide) (pt := 28) (by decide) (pf := 18) rfl (fun hc => ?_) (fun hc => ?_)
      · replace h := h.1 hc
        refine r_iload_n hV rfl rfl (pc' := 29) rfl ?_
        by_cases hc : y = 0
        · replace h := h.1 hc
          refine r_sw hV (pc' := 68) rfl (by decide) (by rw [hc]; rfl) ?_
          refine r_aload_n hV rfl rfl (pc' := 69) rfl ?_
          refine tt_getR hV (tg := 6) (ci := 11) (kf := 8) rfl rfl (by decide) (hB _ _ rfl) rfl (by decide) (pc' := 72) rfl ?_
          refine r_iload_n hV rfl rfl (pc' := 73) rfl ?_
          obtain ⟨v73, m73, h, hr⟩ := h
          refine tt_cv1I hV rfl rfl rfl (Wd_obj (hB _ _ rfl)) (Nat.le_of_ble_eq_true rfl) (Nat.le_of_ble_eq_true rfl) rfl hr (pc' := 76) rfl ?_
          exact rq_ret (q := mI118) rfl rfl rfl h
        have hc3_0 := hc
        clear hc
        by_cases hc : y = 1
        · replace h := h.2.1 hc
          refine r_sw hV (pc' := 77) rfl (by decide) (by rw [hc]; rfl) ?_
          refine r_aload_n hV rfl rfl (pc' := 78) rfl ?_
          refine tt_getR hV (tg := 6) (ci := 11) (kf := 8) rfl rfl (by decide) (hB _ _ rfl) rfl (by decide) (pc' := 81) rfl ?_
          refine r_iload_n hV rfl rfl (pc' := 82) rfl ?_
          obtain ⟨v82, m82, h, hr⟩ := h
          refine tt_cv1I hV rfl rfl rfl (Wd_obj (hB _ _ rfl)) (Nat.le_of_ble_eq_true rfl) (Nat.le_of_ble_eq_true rfl) rfl hr (pc' := 85) rfl ?_
          exact rq_ret (q := mI118) rfl rfl rfl h
        have hc3_1 := hc
        clear hc
        by_cases hc : y = 2
        · replace h := h.2.2.1 hc
          refine r_sw hV (pc' := 86) rfl (by decide) (by rw [hc]; rfl) ?_
          refine r_aload_n hV rfl rfl (pc' := 87) rfl ?_
          refine tt_getR hV (tg := 6) (ci := 11) (kf := 8) rfl rfl (by decide) (hB _ _ rfl) rfl (by decide) (pc' := 90) rfl ?_
          refine r_iload_n hV rfl rfl (pc' := 91) rfl ?_
          obtain ⟨v91, m91, h, hr⟩ := h
          refine tt_cv1I hV rfl rfl rfl (Wd_obj (hB _ _ rfl)) (Nat.le_of_ble_eq_true rfl) (Nat.le_of_ble_eq_true rfl) rfl hr (pc' := 94) rfl ?_
          exact rq_ret (q := mI118) rfl rfl rfl h
        have hc3_2 := hc
        clear hc
        by_cases hc : y = 3
        · replace h := h.2.2.2.1 hc
          refine r_sw hV (pc' := 95) rfl (by decide) (by rw [hc]; rfl) ?_
          refine r_aload_n hV rfl rfl (pc' := 96) rfl ?_
          obtain ⟨c, hc, h⟩ := h
          have hcs := csh_of hB hc
          obtain ⟨g4, h⟩ := h
          refine tt_getP hV (tg := 0) (ci := 11) (kf := 6) rfl rfl (by decide) (hB _ _ rfl) rfl (by decide) (b := c) g4 (pc' := 99) rfl ?_
          refine r_iload_n hV rfl rfl (pc' := 100) rfl ?_
          obtain ⟨v100, m100, h, hr⟩ := h
          refine tt_cv1I hV rfl rfl rfl (Wd_obj hcs.1) (Nat.le_of_ble_eq_true rfl) (Nat.le_of_ble_eq_true rfl) rfl hr (pc' := 103) rfl ?_
          exact rq_ret (q := mI118) rfl rfl rfl h
        have hc3_3 := hc
        clear hc
        by_cases hc : y = 4
        · replace h := h.2.2.2.2.1 hc
          refine r_sw hV (pc' := 104) rfl (by decide) (by rw [hc]; rfl) ?_
          refine r_aload_n hV rfl rfl (pc' := 105) rfl ?_
          refine tt_getR hV (tg := 6) (ci := 11) (kf := 8) rfl rfl (by decide) (hB _ _ rfl) rfl (by decide) (pc' := 108) rfl ?_
          refine r_iload_n hV rfl rfl (pc' := 109) rfl ?_
          obtain ⟨v109, m109, h, hr⟩ := h
          refine tt_cv1I hV rfl rfl rfl (Wd_obj (hB _ _ rfl)) (Nat.le_of_ble_eq_true rfl) (Nat.le_of_ble_eq_true rfl) rfl hr (pc' := 112) rfl ?_
          exact rq_ret (q := mI118) rfl rfl rfl h
        have hc3_4 := hc
        clear hc
        by_cases hc : y = 5
        · replace h := h.2.2.2.2.2.1 hc
          refine r_sw hV (pc' := 113) rfl (by decide) (by rw [hc]; rfl) ?_
          refine r_aload_n hV rfl rfl (pc' := 114) rfl ?_
          refine tt_getR hV (tg := 6) (ci := 11) (kf := 8) rfl rfl (by decide) (hB _ _ rfl) rfl (by decide) (pc' := 117) rfl ?_
          refine r_iload_n hV rfl rfl (pc' := 118) rfl ?_
          obtain ⟨v118, m118, h, hr⟩ := h
          refine tt_cv1I hV rfl rfl rfl (Wd_obj (hB _ _ rfl)) (Nat.le_of_ble_eq_true rfl) (Nat.le_of_ble_eq_true rfl) rfl hr (pc' := 121) rfl ?_
          obtain ⟨g5, h⟩ := h
          refine tt_if_eq hV rfl g5 (pt := 128) (by decide) (pf := 124) rfl (fun hc => ?_) (fun hc => ?_)
          · replace h := h.1 hc
            refine tt_iconst hV rfl (pc' := 129) rfl ?_
            exact rq_ret (q := mI118) rfl rfl rfl h
          · replace h := h.2 hc
            refine tt_iconst hV rfl (pc' := 125) rfl ?_
            refine r_goto hV rfl (pc' := 129) (by decide) ?_
            exact rq_ret (q := mI118) rfl rfl rfl h
        have hc3_5 := hc
        clear hc
        replace h := h.2.2.2.2.2.2 ⟨hc3_0, hc3_1, hc3_2, hc3_3, hc3_4, hc3_5⟩
        refine r_sw hV (pc' := 130) rfl (by decide) ?_ ?_
        · exact sw_tab g2 (by clear h; omega) (by decide)
        refine r_aload_n hV rfl rfl (pc' := 131) rfl ?_
        refine tt_getR hV (tg := 6) (ci := 11) (kf := 9) rfl rfl (by decide) (hB _ _ rfl) rfl (by decide) (pc' := 134) rfl ?_
        refine r_aload_n hV rfl rfl (pc' := 135) rfl ?_
        refine tt_getR hV (tg := 6) (ci := 11) (kf := 8) rfl rfl (by decide) (hB _ _ rfl) rfl (by decide) (pc' := 138) rfl ?_
        refine r_iload_n hV rfl rfl (pc' := 139) rfl ?_
        obtain ⟨v139, m139, h, hr⟩ := h
        refine tt_cv2I hV rfl rfl rfl (Wd_obj (hB _ _ rfl)) (Nat.le_of_ble_eq_true rfl) (Nat.le_of_ble_eq_true rfl) rfl hr (pc' := 142) rfl ?_
        exact rq_ret (q := mI118) rfl rfl rfl h
      · replace h := h.2 (Int.not_le.mp hc)
        exact h.elim
theorem V_laww {X : Cx} {d : Nat} {x : Int} {m : Mm} {Q : Int → Mm → Prop} (hB : Bsh X.2.2.1) (h : (-2147483648 ≤ x ∧ x < 2147483648) ∧ (x < -1 → Q 0 m) ∧ (-1 ≤ x → (-2147483648 ≤ (m 0 4) ∧ (m 0 4) < 2147483648) ∧ (x < m 0 4 → (x ≠ -1 → (0 ≤ x ∧ x < 4) ∧ ∃ l : Nat, (m 8 x = (l : Int)) ∧ Q 1 (up (up m 0 5 x) 18 1 (l : Int))) ∧ (x = -1 → Q 1 (up (up m 0 5 x) 18 1 (-1)))) ∧ (m 0 4 ≤ x → Q 0 m))) : V_law X d x m Q := by
  unfold V_law
  have hV : Clo (gP X.1 X.2.1) d 119 2 false (Rq (gP X.1 X.2.1) d 119 X.2.2.1 X.2.2.2 Q) := Rq_clo (q := mI119) rfl
  refine r_iload_n hV rfl rfl (pc' := 1) rfl ?_
  refine tt_iconst hV rfl (pc' := 2) rfl ?_
  obtain ⟨g1, h⟩ := h
  refine tt_icmp_lt hV rfl g1 (by decide) (pt := 13) (by decide) (pf := 5) rfl (fun hc => ?_) (fun hc => ?_)
  · replace h := h.1 hc
    refine tt_iconst hV rfl (pc' := 14) rfl ?_
    exact rq_ret (q := mI119) rfl rfl rfl h
  · replace h := h.2 (Int.not_lt.mp hc)
    refine r_iload_n hV rfl rfl (pc' := 6) rfl ?_
    refine r_aload_n hV rfl rfl (pc' := 7) rfl ?_
    refine tt_getI hV (tg := 0) (ci := 11) (kf := 4) rfl rfl (by decide) (hB _ _ rfl) rfl (by decide) (pc' := 10) rfl ?_
    obtain ⟨g2, h⟩ := h
    refine tt_icmp_lt hV rfl g1 g2 (pt := 15) (by decide) (pf := 13) rfl (fun hc => ?_) (fun hc => ?_)
    · replace h := h.1 hc
      refine r_aload_n hV rfl rfl (pc' := 16) rfl ?_
      refine r_iload_n hV rfl rfl (pc' := 17) rfl ?_
      refine tt_putI hV (tg := 0) (ci := 11) (kf := 5) rfl rfl (Or.inl rfl) (hB _ _ rfl) rfl (by decide) rfl (pc' := 20) rfl ?_
      refine r_aload_n hV rfl rfl (pc' := 21) rfl ?_
      refine tt_getR hV (tg := 6) (ci := 11) (kf := 9) rfl rfl (by decide) (hB _ _ rfl) rfl (by decide) (pc' := 24) rfl ?_
      refine r_iload_n hV rfl rfl (pc' := 25) rfl ?_
      refine tt_iconst hV rfl (pc' := 26) rfl ?_
      refine tt_icmp_ne hV rfl g1 (by decide) (pt := 33) (by decide) (pf := 29) rfl (fun hc => ?_) (fun hc => ?_)
      · replace h := h.1 hc
        refine r_aload_n hV rfl rfl (pc' := 34) rfl ?_
        refine tt_getR hV (tg := 6) (ci := 11) (kf := 3) rfl rfl (by decide) (hB _ _ rfl) rfl (by decide) (pc' := 37) rfl ?_
        refine r_iload_n hV rfl rfl (pc' := 38) rfl ?_
        obtain ⟨g3, h⟩ := h
        obtain ⟨l, h⟩ := h
        obtain ⟨g4, h⟩ := h
        refine q_aald hV rfl (hB _ _ rfl) (by decide) gOcs (Nat.le_of_ble_eq_true rfl) rfl g3 (b := l) ((up_ne (Or.inl (by decide))).trans g4) (pc' := 39) rfl ?_
        refine tt_putP hV (tg := 0) (ci := 7) (kf := 1) rfl rfl (Or.inl rfl) (hB _ _ rfl) rfl (by decide) rfl (pc' := 42) rfl ?_
        refine tt_iconst hV rfl (pc' := 43) rfl ?_
        exact rq_ret (q := mI119) rfl rfl rfl h
      · replace h := h.2 (Decidable.not_not.mp hc)
        refine r_null hV rfl (pc' := 30) rfl ?_
        refine r_goto hV rfl (pc' := 39) (by decide) ?_
        refine tt_putN hV (tg := 0) (ci := 7) (kf := 1) rfl rfl (Or.inl rfl) (hB _ _ rfl) rfl (by decide) rfl (pc' := 42) rfl ?_
        refine tt_iconst hV rfl (pc' := 43) rfl ?_
        exact rq_ret (q := mI119) rfl rfl rfl h
    · replace h := h.2 (Int.not_lt.mp hc)
      refine tt_iconst hV rfl (pc' := 14) rfl ?_
      exact rq_ret (q := mI119) rfl rfl rfl h
theorem V_sumw {X : Cx} {d : Nat} {m : Mm} {Q : Int → Mm → Prop} (hB : Bsh X.2.2.1) (h : V_hasCanton X d m (fun v1 m1 => (-2147483648 ≤ v1 ∧ v1 < 2147483648) ∧ (v1 = 0 → Q (-1000000) m1) ∧ (v1 ≠ 0 → S_sumOf X d 17 m1 (fun v15 m15 => Q v15 m15)))) : V_sum X (d + 1) m Q := by
  unfold V_sum
  have hV : Clo (gP X.1 X.2.1) (d + 1) 120 1 false (Rq (gP X.1 X.2.1) (d + 1) 120 X.2.2.1 X.2.2.2 Q) := Rq_clo (q := mI120) rfl
  refine r_aload_n hV rfl rfl (pc' := 1) rfl ?_
  obtain ⟨v1, m1, h, hr⟩ := h
  refine tt_cv0I hV rfl rfl rfl (Wd_obj (hB _ _ rfl)) (Nat.le_of_ble_eq_true rfl) (Nat.le_of_ble_eq_true rfl) rfl hr (pc' := 4) rfl ?_
  obtain ⟨g1, h⟩ := h
  refine tt_if_eq hV rfl g1 (pt := 21) (by decide) (pf := 7) rfl (fun hc => ?_) (fun hc => ?_)
  · replace h := h.1 hc
    refine v_ldc hV (Int32.ofInt (-1000000)) rfl rfl rfl (pc' := 23) rfl ?_
    exact rq_ret (q := mI120) rfl rfl rfl h
  · replace h := h.2 hc
    refine r_aload_n hV rfl rfl (pc' := 8) rfl ?_
    refine tt_getR hV (tg := 6) (ci := 11) (kf := 9) rfl rfl (by decide) (hB _ _ rfl) rfl (by decide) (pc' := 11) rfl ?_
    refine r_aload_n hV rfl rfl (pc' := 12) rfl ?_
    refine tt_getR hV (tg := 6) (ci := 11) (kf := 8) rfl rfl (by decide) (hB _ _ rfl) rfl (by decide) (pc' := 15) rfl ?_
    obtain ⟨v15, m15, h, hr⟩ := h
    refine tt_cv1I hV rfl rfl rfl (Wd_obj (hB _ _ rfl)) (Nat.le_of_ble_eq_true rfl) (Nat.le_of_ble_eq_true rfl) rfl hr (pc' := 18) rfl ?_
    refine r_goto hV rfl (pc' := 23) (by decide) ?_
    exact rq_ret (q := mI120) rfl rfl rfl h
theorem V_leanw {X : Cx} {d : Nat} {x : Int} {y : Int} {m : Mm} {Q : Int → Mm → Prop} (hB : Bsh X.2.2.1) (h : V_isMember X d x m (fun v2 m2 => (-2147483648 ≤ v2 ∧ v2 < 2147483648) ∧ (v2 ≠ 0 → (-2147483648 ≤ y ∧ y < 2147483648) ∧ (y < 0 → V_refuse X d 1 m2 (fun v25 m25 => Q v25 m25)) ∧ (0 ≤ y → (y ≤ 2 → T_leanOf X d 17 x m2 (fun v34 m34 => (-2147483648 ≤ v34 ∧ v34 < 2147483648) ∧ (v34 ≠ y → H_keepAct X d m34 (fun m57 => T_with X d (m57 17 1) x y m57 (fun v73 m73 => Q v34 (up m73 17 1 v73)))) ∧ (v34 = y → V_refuse X d 2 m34 (fun v45 m45 => Q v45 m45)))) ∧ (2 < y → V_refuse X d 1 m2 (fun v25 m25 => Q v25 m25)))) ∧ (v2 = 0 → V_refuse X d 0 m2 (fun v10 m10 => Q v10 m10)))) : V_lean X (d + 1) x y m Q := by
  unfold V_lean
  have hV : Clo (gP X.1 X.2.1) (d + 1) 121 4 false (Rq (gP X.1 X.2.1) (d + 1) 121 X.2.2.1 X.2.2.2 Q) := Rq_clo (q := mI121) rfl
  refine r_aload_n hV rfl rfl (pc' := 1) rfl ?_
  refine r_iload_n hV rfl rfl (pc' := 2) rfl ?_
  obtain ⟨v2, m2, h, hr⟩ := h
  refine tt_cv1I hV rfl rfl rfl (Wd_obj (hB _ _ rfl)) (Nat.le_of_ble_eq_true rfl) (Nat.le_of_ble_eq_true rfl) rfl hr (pc' := 5) rfl ?_
  obtain ⟨g1, h⟩ := h
  refine tt_if_ne hV rfl g1 (pt := 14) (by decide) (pf := 8) rfl (fun hc => ?_) (fun hc => ?_)
  · replace h := h.1 hc
    refine r_iload_n hV rfl rfl (pc' := 15) rfl ?_
    obtain ⟨g2, h⟩ := h
    refine tt_if_lt hV rfl g2 (pt := 23) (by decide) (pf := 18) rfl (fun hc => ?_) (fun hc => ?_)
    · replace h := h.1 hc
      refine r_aload_n hV rfl rfl (pc' := 24) rfl ?_
      refine tt_iconst hV rfl (pc' := 25) rfl ?_
      obtain ⟨v25, m25, h, hr⟩ := h
      refine tt_cv1I hV rfl rfl rfl (Wd_obj (hB _ _ rfl)) (Nat.le_of_ble_eq_true rfl) (Nat.le_of_ble_eq_true rfl) rfl hr (pc' := 28) rfl ?_
      exact rq_ret (q := mI121) rfl rfl rfl h
    · replace h := h.2 (Int.not_lt.mp hc)
      refine r_iload_n hV rfl rfl (pc' := 19) rfl ?_
      refine tt_iconst hV rfl (pc' := 20) rfl ?_
      refine tt_icmp_le hV rfl g2 (by decide) (pt := 29) (by decide) (pf := 23) rfl (fun hc => ?_) (fun hc => ?_)
      · replace h := h.1 hc
        refine r_aload_n hV rfl rfl (pc' := 30) rfl ?_
        refine tt_getR hV (tg := 6) (ci := 11) (kf := 8) rfl rfl (by decide) (hB _ _ rfl) rfl (by decide) (pc' := 33) rfl ?_
        refine r_iload_n hV rfl rfl (pc' := 34) rfl ?_
        obtain ⟨v34, m34, h, hr⟩ := h
        refine tt_cv1I hV rfl rfl rfl (Wd_obj (hB _ _ rfl)) (Nat.le_of_ble_eq_true rfl) (Nat.le_of_ble_eq_true rfl) rfl hr (pc' := 37) rfl ?_
        refine tt_istore3 hV rfl rfl (pc' := 38) rfl ?_
        refine r_iload_n hV rfl rfl (pc' := 39) rfl ?_
        refine r_iload_n hV rfl rfl (pc' := 40) rfl ?_
        obtain ⟨g3, h⟩ := h
        refine tt_icmp_ne hV rfl g3 g2 (pt := 49) (by decide) (pf := 43) rfl (fun hc => ?_) (fun hc => ?_)
        · replace h := h.1 hc
          refine r_aload_n hV rfl rfl (pc' := 50) rfl ?_
          refine tt_getR hV (tg := 6) (ci := 11) (kf := 10) rfl rfl (by decide) (hB _ _ rfl) rfl (by decide) (pc' := 53) rfl ?_
          refine r_aload_n hV rfl rfl (pc' := 54) rfl ?_
          refine tt_getR hV (tg := 6) (ci := 11) (kf := 8) rfl rfl (by decide) (hB _ _ rfl) rfl (by decide) (pc' := 57) rfl ?_
          obtain ⟨m57, h, hr⟩ := h
          refine tt_cv1U hV rfl rfl rfl (Wd_obj (hB _ _ rfl)) (Nat.le_of_ble_eq_true rfl) (Nat.le_of_ble_eq_true rfl) rfl hr (pc' := 60) rfl ?_
          refine r_aload_n hV rfl rfl (pc' := 61) rfl ?_
          refine tt_getR hV (tg := 6) (ci := 11) (kf := 8) rfl rfl (by decide) (hB _ _ rfl) rfl (by decide) (pc' := 64) rfl ?_
          refine r_aload_n hV rfl rfl (pc' := 65) rfl ?_
          refine tt_getR hV (tg := 6) (ci := 11) (kf := 8) rfl rfl (by decide) (hB _ _ rfl) rfl (by decide) (pc' := 68) rfl ?_
          refine tt_getI hV (tg := 0) (ci := 8) (kf := 1) rfl rfl (by decide) (hB _ _ rfl) rfl (by decide) (pc' := 71) rfl ?_
          refine r_iload_n hV rfl rfl (pc' := 72) rfl ?_
          refine r_iload_n hV rfl rfl (pc' := 73) rfl ?_
          obtain ⟨v73, m73, h, hr⟩ := h
          refine tt_cs3I hV rfl rfl rfl (Nat.le_of_ble_eq_true rfl) (Nat.le_of_ble_eq_true rfl) rfl hr (pc' := 76) rfl ?_
          refine tt_putI hV (tg := 0) (ci := 8) (kf := 1) rfl rfl (Or.inl rfl) (hB _ _ rfl) rfl (by decide) rfl (pc' := 79) rfl ?_
          refine r_iload_n hV rfl rfl (pc' := 80) rfl ?_
          exact rq_ret (q := mI121) rfl rfl rfl h
        · replace h := h.2 (Decidable.not_not.mp hc)
          refine r_aload_n hV rfl rfl (pc' := 44) rfl ?_
          refine tt_iconst hV rfl (pc' := 45) rfl ?_
          obtain ⟨v45, m45, h, hr⟩ := h
          refine tt_cv1I hV rfl rfl rfl (Wd_obj (hB _ _ rfl)) (Nat.le_of_ble_eq_true rfl) (Nat.le_of_ble_eq_true rfl) rfl hr (pc' := 48) rfl ?_
          exact rq_ret (q := mI121) rfl rfl rfl h
      · replace h := h.2 (Int.not_le.mp hc)
        refine r_aload_n hV rfl rfl (pc' := 24) rfl ?_
        refine tt_iconst hV rfl (pc' := 25) rfl ?_
        obtain ⟨v25, m25, h, hr⟩ := h
        refine tt_cv1I hV rfl rfl rfl (Wd_obj (hB _ _ rfl)) (Nat.le_of_ble_eq_true rfl) (Nat.le_of_ble_eq_true rfl) rfl hr (pc' := 28) rfl ?_
        exact rq_ret (q := mI121) rfl rfl rfl h
  · replace h := h.2 (Decidable.not_not.mp hc)
    refine r_aload_n hV rfl rfl (pc' := 9) rfl ?_
    refine tt_iconst hV rfl (pc' := 10) rfl ?_
    obtain ⟨v10, m10, h, hr⟩ := h
    refine tt_cv1I hV rfl rfl rfl (Wd_obj (hB _ _ rfl)) (Nat.le_of_ble_eq_true rfl) (Nat.le_of_ble_eq_true rfl) rfl hr (pc' := 13) rfl ?_
    exact rq_ret (q := mI121) rfl rfl rfl h
theorem V_changew {X : Cx} {d : Nat} {x : Int} {y : Int} {m : Mm} {Q : Int → Mm → Prop} (hB : Bsh X.2.2.1) (h : V_isMember X d x m (fun v2 m2 => (-2147483648 ≤ v2 ∧ v2 < 2147483648) ∧ (v2 = 0 → V_refuse X d 0 m2 (fun v18 m18 => Q v18 m18)) ∧ (v2 ≠ 0 → V_isMember X d y m2 (fun v10 m10 => (-2147483648 ≤ v10 ∧ v10 < 2147483648) ∧ (v10 ≠ 0 → (-2147483648 ≤ x ∧ x < 2147483648) ∧ (-2147483648 ≤ y ∧ y < 2147483648) ∧ (x ≠ y → H_keepAct X d m10 (fun m41 => T_swapSeats X d 17 x y m41 (fun m50 => T_seatOf X d 17 x m50 (fun v58 m58 => Q v58 m58)))) ∧ (x = y → V_refuse X d 2 m10 (fun v29 m29 => Q v29 m29))) ∧ (v10 = 0 → V_refuse X d 0 m10 (fun v18 m18 => Q v18 m18)))))) : V_change X (d + 1) x y m Q := by
  unfold V_change
  have hV : Clo (gP X.1 X.2.1) (d + 1) 122 3 false (Rq (gP X.1 X.2.1) (d + 1) 122 X.2.2.1 X.2.2.2 Q) := Rq_clo (q := mI122) rfl
  refine r_aload_n hV rfl rfl (pc' := 1) rfl ?_
  refine r_iload_n hV rfl rfl (pc' := 2) rfl ?_
  obtain ⟨v2, m2, h, hr⟩ := h
  refine tt_cv1I hV rfl rfl rfl (Wd_obj (hB _ _ rfl)) (Nat.le_of_ble_eq_true rfl) (Nat.le_of_ble_eq_true rfl) rfl hr (pc' := 5) rfl ?_
  obtain ⟨g1, h⟩ := h
  refine tt_if_eq hV rfl g1 (pt := 16) (by decide) (pf := 8) rfl (fun hc => ?_) (fun hc => ?_)
  · replace h := h.1 hc
    refine r_aload_n hV rfl rfl (pc' := 17) rfl ?_
    refine tt_iconst hV rfl (pc' := 18) rfl ?_
    obtain ⟨v18, m18, h, hr⟩ := h
    refine tt_cv1I hV rfl rfl rfl (Wd_obj (hB _ _ rfl)) (Nat.le_of_ble_eq_true rfl) (Nat.le_of_ble_eq_true rfl) rfl hr (pc' := 21) rfl ?_
    exact rq_ret (q := mI122) rfl rfl rfl h
  · replace h := h.2 hc
    refine r_aload_n hV rfl rfl (pc' := 9) rfl ?_
    refine r_iload_n hV rfl rfl (pc' := 10) rfl ?_
    obtain ⟨v10, m10, h, hr⟩ := h
    refine tt_cv1I hV rfl rfl rfl (Wd_obj (hB _ _ rfl)) (Nat.le_of_ble_eq_true rfl) (Nat.le_of_ble_eq_true rfl) rfl hr (pc' := 13) rfl ?_
    obtain ⟨g2, h⟩ := h
    refine tt_if_ne hV rfl g2 (pt := 22) (by decide) (pf := 16) rfl (fun hc => ?_) (fun hc => ?_)
    · replace h := h.1 hc
      refine r_iload_n hV rfl rfl (pc' := 23) rfl ?_
      refine r_iload_n hV rfl rfl (pc' := 24) rfl ?_
      obtain ⟨g3, h⟩ := h
      obtain ⟨g4, h⟩ := h
      refine tt_icmp_ne hV rfl g3 g4 (pt := 33) (by decide) (pf := 27) rfl (fun hc => ?_) (fun hc => ?_)
      · replace h := h.1 hc
        refine r_aload_n hV rfl rfl (pc' := 34) rfl ?_
        refine tt_getR hV (tg := 6) (ci := 11) (kf := 10) rfl rfl (by decide) (hB _ _ rfl) rfl (by decide) (pc' := 37) rfl ?_
        refine r_aload_n hV rfl rfl (pc' := 38) rfl ?_
        refine tt_getR hV (tg := 6) (ci := 11) (kf := 8) rfl rfl (by decide) (hB _ _ rfl) rfl (by decide) (pc' := 41) rfl ?_
        obtain ⟨m41, h, hr⟩ := h
        refine tt_cv1U hV rfl rfl rfl (Wd_obj (hB _ _ rfl)) (Nat.le_of_ble_eq_true rfl) (Nat.le_of_ble_eq_true rfl) rfl hr (pc' := 44) rfl ?_
        refine r_aload_n hV rfl rfl (pc' := 45) rfl ?_
        refine tt_getR hV (tg := 6) (ci := 11) (kf := 8) rfl rfl (by decide) (hB _ _ rfl) rfl (by decide) (pc' := 48) rfl ?_
        refine r_iload_n hV rfl rfl (pc' := 49) rfl ?_
        refine r_iload_n hV rfl rfl (pc' := 50) rfl ?_
        obtain ⟨m50, h, hr⟩ := h
        refine tt_cv2U hV rfl rfl rfl (Wd_obj (hB _ _ rfl)) (Nat.le_of_ble_eq_true rfl) (Nat.le_of_ble_eq_true rfl) rfl hr (pc' := 53) rfl ?_
        refine r_aload_n hV rfl rfl (pc' := 54) rfl ?_
        refine tt_getR hV (tg := 6) (ci := 11) (kf := 8) rfl rfl (by decide) (hB _ _ rfl) rfl (by decide) (pc' := 57) rfl ?_
        refine r_iload_n hV rfl rfl (pc' := 58) rfl ?_
        obtain ⟨v58, m58, h, hr⟩ := h
        refine tt_cv1I hV rfl rfl rfl (Wd_obj (hB _ _ rfl)) (Nat.le_of_ble_eq_true rfl) (Nat.le_of_ble_eq_true rfl) rfl hr (pc' := 61) rfl ?_
        exact rq_ret (q := mI122) rfl rfl rfl h
      · replace h := h.2 (Decidable.not_not.mp hc)
        refine r_aload_n hV rfl rfl (pc' := 28) rfl ?_
        refine tt_iconst hV rfl (pc' := 29) rfl ?_
        obtain ⟨v29, m29, h, hr⟩ := h
        refine tt_cv1I hV rfl rfl rfl (Wd_obj (hB _ _ rfl)) (Nat.le_of_ble_eq_true rfl) (Nat.le_of_ble_eq_true rfl) rfl hr (pc' := 32) rfl ?_
        exact rq_ret (q := mI122) rfl rfl rfl h
    · replace h := h.2 (Decidable.not_not.mp hc)
      refine r_aload_n hV rfl rfl (pc' := 17) rfl ?_
      refine tt_iconst hV rfl (pc' := 18) rfl ?_
      obtain ⟨v18, m18, h, hr⟩ := h
      refine tt_cv1I hV rfl rfl rfl (Wd_obj (hB _ _ rfl)) (Nat.le_of_ble_eq_true rfl) (Nat.le_of_ble_eq_true rfl) rfl hr (pc' := 21) rfl ?_
      exact rq_ret (q := mI122) rfl rfl rfl h
theorem V_heelw {X : Cx} {d : Nat} {x : Int} {m : Mm} {Q : Int → Mm → Prop} (hB : Bsh X.2.2.1) (h : V_isMember X d x m (fun v2 m2 => (-2147483648 ≤ v2 ∧ v2 < 2147483648) ∧ (v2 ≠ 0 → T_heelsOf X d 17 x m2 (fun v19 m19 => (-2147483648 ≤ v19 ∧ v19 < 2147483648) ∧ (v19 < 9 → H_keepAct X d m19 (fun m43 => T_with X d (m43 17 2) x (v19 + 1) m43 (fun v61 m61 => Q (v19 + 1) (up m61 17 2 v61)))) ∧ (9 ≤ v19 → V_refuse X d 2 m19 (fun v31 m31 => Q v31 m31)))) ∧ (v2 = 0 → V_refuse X d 0 m2 (fun v10 m10 => Q v10 m10)))) : V_heel X (d + 1) x m Q := by
  unfold V_heel
  have hV : Clo (gP X.1 X.2.1) (d + 1) 123 3 false (Rq (gP X.1 X.2.1) (d + 1) 123 X.2.2.1 X.2.2.2 Q) := Rq_clo (q := mI123) rfl
  refine r_aload_n hV rfl rfl (pc' := 1) rfl ?_
  refine r_iload_n hV rfl rfl (pc' := 2) rfl ?_
  obtain ⟨v2, m2, h, hr⟩ := h
  refine tt_cv1I hV rfl rfl rfl (Wd_obj (hB _ _ rfl)) (Nat.le_of_ble_eq_true rfl) (Nat.le_of_ble_eq_true rfl) rfl hr (pc' := 5) rfl ?_
  obtain ⟨g1, h⟩ := h
  refine tt_if_ne hV rfl g1 (pt := 14) (by decide) (pf := 8) rfl (fun hc => ?_) (fun hc => ?_)
  · replace h := h.1 hc
    refine r_aload_n hV rfl rfl (pc' := 15) rfl ?_
    refine tt_getR hV (tg := 6) (ci := 11) (kf := 8) rfl rfl (by decide) (hB _ _ rfl) rfl (by decide) (pc' := 18) rfl ?_
    refine r_iload_n hV rfl rfl (pc' := 19) rfl ?_
    obtain ⟨v19, m19, h, hr⟩ := h
    refine tt_cv1I hV rfl rfl rfl (Wd_obj (hB _ _ rfl)) (Nat.le_of_ble_eq_true rfl) (Nat.le_of_ble_eq_true rfl) rfl hr (pc' := 22) rfl ?_
    refine tt_istore2 hV rfl rfl (pc' := 23) rfl ?_
    refine r_iload_n hV rfl rfl (pc' := 24) rfl ?_
    refine tt_bipush hV rfl (by decide) (pc' := 26) rfl ?_
    obtain ⟨g2, h⟩ := h
    refine tt_icmp_lt hV rfl g2 (by decide) (pt := 35) (by decide) (pf := 29) rfl (fun hc => ?_) (fun hc => ?_)
    · replace h := h.1 hc
      refine r_aload_n hV rfl rfl (pc' := 36) rfl ?_
      refine tt_getR hV (tg := 6) (ci := 11) (kf := 10) rfl rfl (by decide) (hB _ _ rfl) rfl (by decide) (pc' := 39) rfl ?_
      refine r_aload_n hV rfl rfl (pc' := 40) rfl ?_
      refine tt_getR hV (tg := 6) (ci := 11) (kf := 8) rfl rfl (by decide) (hB _ _ rfl) rfl (by decide) (pc' := 43) rfl ?_
      obtain ⟨m43, h, hr⟩ := h
      refine tt_cv1U hV rfl rfl rfl (Wd_obj (hB _ _ rfl)) (Nat.le_of_ble_eq_true rfl) (Nat.le_of_ble_eq_true rfl) rfl hr (pc' := 46) rfl ?_
      refine r_aload_n hV rfl rfl (pc' := 47) rfl ?_
      refine tt_getR hV (tg := 6) (ci := 11) (kf := 8) rfl rfl (by decide) (hB _ _ rfl) rfl (by decide) (pc' := 50) rfl ?_
      refine r_aload_n hV rfl rfl (pc' := 51) rfl ?_
      refine tt_getR hV (tg := 6) (ci := 11) (kf := 8) rfl rfl (by decide) (hB _ _ rfl) rfl (by decide) (pc' := 54) rfl ?_
      refine tt_getI hV (tg := 0) (ci := 8) (kf := 2) rfl rfl (by decide) (hB _ _ rfl) rfl (by decide) (pc' := 57) rfl ?_
      refine r_iload_n hV rfl rfl (pc' := 58) rfl ?_
      refine r_iload_n hV rfl rfl (pc' := 59) rfl ?_
      refine tt_iconst hV rfl (pc' := 60) rfl ?_
      refine tt_iadd hV rfl (pc' := 61) rfl ?_
      obtain ⟨v61, m61, h, hr⟩ := h
      refine tt_cs3I hV rfl rfl rfl (Nat.le_of_ble_eq_true rfl) (Nat.le_of_ble_eq_true rfl) rfl hr (pc' := 64) rfl ?_
      refine tt_putI hV (tg := 0) (ci := 8) (kf := 2) rfl rfl (Or.inl rfl) (hB _ _ rfl) rfl (by decide) rfl (pc' := 67) rfl ?_
      refine r_iload_n hV rfl rfl (pc' := 68) rfl ?_
      refine tt_iconst hV rfl (pc' := 69) rfl ?_
      refine tt_iadd hV rfl (pc' := 70) rfl ?_
      exact rq_ret (q := mI123) rfl rfl rfl h
    · replace h := h.2 (Int.not_lt.mp hc)
      refine r_aload_n hV rfl rfl (pc' := 30) rfl ?_
      refine tt_iconst hV rfl (pc' := 31) rfl ?_
      obtain ⟨v31, m31, h, hr⟩ := h
      refine tt_cv1I hV rfl rfl rfl (Wd_obj (hB _ _ rfl)) (Nat.le_of_ble_eq_true rfl) (Nat.le_of_ble_eq_true rfl) rfl hr (pc' := 34) rfl ?_
      exact rq_ret (q := mI123) rfl rfl rfl h
  · replace h := h.2 (Decidable.not_not.mp hc)
    refine r_aload_n hV rfl rfl (pc' := 9) rfl ?_
    refine tt_iconst hV rfl (pc' := 10) rfl ?_
    obtain ⟨v10, m10, h, hr⟩ := h
    refine tt_cv1I hV rfl rfl rfl (Wd_obj (hB _ _ rfl)) (Nat.le_of_ble_eq_true rfl) (Nat.le_of_ble_eq_true rfl) rfl hr (pc' := 13) rfl ?_
    exact rq_ret (q := mI123) rfl rfl rfl h
theorem V_streww {X : Cx} {d : Nat} {x : Int} {m : Mm} {Q : Int → Mm → Prop} (hB : Bsh X.2.2.1) (h : V_isBump X d x m (fun v2 m2 => (-2147483648 ≤ v2 ∧ v2 < 2147483648) ∧ (v2 ≠ 0 → ((iA ((iSr (m2 17 5) x)) 1) ≠ 1 → (-2147483648 ≤ (m2 17 6) ∧ (m2 17 6) < 2147483648) ∧ (0 < m2 17 6 → H_keepAct X d m2 (fun m59 => Q (m59 17 6 - 1) (up (up m59 17 5 ((iO (m59 17 5) ((iSl 1 x))))) 17 6 (m59 17 6 - 1)))) ∧ (m2 17 6 ≤ 0 → V_refuse X d 3 m2 (fun v47 m47 => Q v47 m47))) ∧ ((iA ((iSr (m2 17 5) x)) 1) = 1 → V_refuse X d 2 m2 (fun v31 m31 => Q v31 m31))) ∧ (v2 = 0 → V_refuse X d 0 m2 (fun v10 m10 => Q v10 m10)))) : V_strew X (d + 1) x m Q := by
  unfold V_strew
  have hV : Clo (gP X.1 X.2.1) (d + 1) 124 2 false (Rq (gP X.1 X.2.1) (d + 1) 124 X.2.2.1 X.2.2.2 Q) := Rq_clo (q := mI124) rfl
  refine r_aload_n hV rfl rfl (pc' := 1) rfl ?_
  refine r_iload_n hV rfl rfl (pc' := 2) rfl ?_
  obtain ⟨v2, m2, h, hr⟩ := h
  refine tt_cv1I hV rfl rfl rfl (Wd_obj (hB _ _ rfl)) (Nat.le_of_ble_eq_true rfl) (Nat.le_of_ble_eq_true rfl) rfl hr (pc' := 5) rfl ?_
  obtain ⟨g1, h⟩ := h
  refine tt_if_ne hV rfl g1 (pt := 14) (by decide) (pf := 8) rfl (fun hc => ?_) (fun hc => ?_)
  · replace h := h.1 hc
    refine r_aload_n hV rfl rfl (pc' := 15) rfl ?_
    refine tt_getR hV (tg := 6) (ci := 11) (kf := 8) rfl rfl (by decide) (hB _ _ rfl) rfl (by decide) (pc' := 18) rfl ?_
    refine tt_getI hV (tg := 0) (ci := 8) (kf := 5) rfl rfl (by decide) (hB _ _ rfl) rfl (by decide) (pc' := 21) rfl ?_
    refine r_iload_n hV rfl rfl (pc' := 22) rfl ?_
    refine tt_ishr hV rfl (pc' := 23) rfl ?_
    refine tt_iconst hV rfl (pc' := 24) rfl ?_
    refine tt_iand hV rfl (pc' := 25) rfl ?_
    refine tt_iconst hV rfl (pc' := 26) rfl ?_
    refine tt_icmp_ne hV rfl (i32R _) (by decide) (pt := 35) (by decide) (pf := 29) rfl (fun hc => ?_) (fun hc => ?_)
    · replace h := h.1 hc
      refine r_aload_n hV rfl rfl (pc' := 36) rfl ?_
      refine tt_getR hV (tg := 6) (ci := 11) (kf := 8) rfl rfl (by decide) (hB _ _ rfl) rfl (by decide) (pc' := 39) rfl ?_
      refine tt_getI hV (tg := 0) (ci := 8) (kf := 6) rfl rfl (by decide) (hB _ _ rfl) rfl (by decide) (pc' := 42) rfl ?_
      obtain ⟨g2, h⟩ := h
      refine tt_if_gt hV rfl g2 (pt := 51) (by decide) (pf := 45) rfl (fun hc => ?_) (fun hc => ?_)
      · replace h := h.1 hc
        refine r_aload_n hV rfl rfl (pc' := 52) rfl ?_
        refine tt_getR hV (tg := 6) (ci := 11) (kf := 10) rfl rfl (by decide) (hB _ _ rfl) rfl (by decide) (pc' := 55) rfl ?_
        refine r_aload_n hV rfl rfl (pc' := 56) rfl ?_
        refine tt_getR hV (tg := 6) (ci := 11) (kf := 8) rfl rfl (by decide) (hB _ _ rfl) rfl (by decide) (pc' := 59) rfl ?_
        obtain ⟨m59, h, hr⟩ := h
        refine tt_cv1U hV rfl rfl rfl (Wd_obj (hB _ _ rfl)) (Nat.le_of_ble_eq_true rfl) (Nat.le_of_ble_eq_true rfl) rfl hr (pc' := 62) rfl ?_
        refine r_aload_n hV rfl rfl (pc' := 63) rfl ?_
        refine tt_getR hV (tg := 6) (ci := 11) (kf := 8) rfl rfl (by decide) (hB _ _ rfl) rfl (by decide) (pc' := 66) rfl ?_
        refine r_dup hV rfl rfl (pc' := 67) rfl ?_
        refine tt_getI hV (tg := 0) (ci := 8) (kf := 5) rfl rfl (by decide) (hB _ _ rfl) rfl (by decide) (pc' := 70) rfl ?_
        refine tt_iconst hV rfl (pc' := 71) rfl ?_
        refine r_iload_n hV rfl rfl (pc' := 72) rfl ?_
        refine tt_ishl hV rfl (pc' := 73) rfl ?_
        refine tt_ior hV rfl (pc' := 74) rfl ?_
        refine tt_putI hV (tg := 0) (ci := 8) (kf := 5) rfl rfl (Or.inl rfl) (hB _ _ rfl) rfl (by decide) rfl (pc' := 77) rfl ?_
        refine r_aload_n hV rfl rfl (pc' := 78) rfl ?_
        refine tt_getR hV (tg := 6) (ci := 11) (kf := 8) rfl rfl (by decide) (hB _ _ rfl) rfl (by decide) (pc' := 81) rfl ?_
        refine r_dup hV rfl rfl (pc' := 82) rfl ?_
        refine tt_getI hV (tg := 0) (ci := 8) (kf := 6) rfl rfl (by decide) (hB _ _ rfl) rfl (by decide) (pc' := 85) rfl ?_
        refine vtI (y := m59 17 6) (up_ne (Or.inr (by decide))) ?_
        refine tt_iconst hV rfl (pc' := 86) rfl ?_
        refine tt_isub hV rfl (pc' := 87) rfl ?_
        refine tt_putI hV (tg := 0) (ci := 8) (kf := 6) rfl rfl (Or.inl rfl) (hB _ _ rfl) rfl (by decide) rfl (pc' := 90) rfl ?_
        refine r_aload_n hV rfl rfl (pc' := 91) rfl ?_
        refine tt_getR hV (tg := 6) (ci := 11) (kf := 8) rfl rfl (by decide) (hB _ _ rfl) rfl (by decide) (pc' := 94) rfl ?_
        refine tt_getI hV (tg := 0) (ci := 8) (kf := 6) rfl rfl (by decide) (hB _ _ rfl) rfl (by decide) (pc' := 97) rfl ?_
        refine vtI (y := m59 17 6 - 1) (up_same _ _ _ _) ?_
        exact rq_ret (q := mI124) rfl rfl rfl h
      · replace h := h.2 (Int.not_lt.mp hc)
        refine r_aload_n hV rfl rfl (pc' := 46) rfl ?_
        refine tt_iconst hV rfl (pc' := 47) rfl ?_
        obtain ⟨v47, m47, h, hr⟩ := h
        refine tt_cv1I hV rfl rfl rfl (Wd_obj (hB _ _ rfl)) (Nat.le_of_ble_eq_true rfl) (Nat.le_of_ble_eq_true rfl) rfl hr (pc' := 50) rfl ?_
        exact rq_ret (q := mI124) rfl rfl rfl h
    · replace h := h.2 (Decidable.not_not.mp hc)
      refine r_aload_n hV rfl rfl (pc' := 30) rfl ?_
      refine tt_iconst hV rfl (pc' := 31) rfl ?_
      obtain ⟨v31, m31, h, hr⟩ := h
      refine tt_cv1I hV rfl rfl rfl (Wd_obj (hB _ _ rfl)) (Nat.le_of_ble_eq_true rfl) (Nat.le_of_ble_eq_true rfl) rfl hr (pc' := 34) rfl ?_
      exact rq_ret (q := mI124) rfl rfl rfl h
  · replace h := h.2 (Decidable.not_not.mp hc)
    refine r_aload_n hV rfl rfl (pc' := 9) rfl ?_
    refine tt_iconst hV rfl (pc' := 10) rfl ?_
    obtain ⟨v10, m10, h, hr⟩ := h
    refine tt_cv1I hV rfl rfl rfl (Wd_obj (hB _ _ rfl)) (Nat.le_of_ble_eq_true rfl) (Nat.le_of_ble_eq_true rfl) rfl hr (pc' := 13) rfl ?_
    exact rq_ret (q := mI124) rfl rfl rfl h
theorem V_rowsw {X : Cx} {d : Nat} {x : Int} {m : Mm} {Q : Int → Mm → Prop} (hB : Bsh X.2.2.1) (h : V_hasCanton X d m (fun v1 m1 => (-2147483648 ≤ v1 ∧ v1 < 2147483648) ∧ (v1 ≠ 0 → (-2147483648 ≤ x ∧ x < 2147483648) ∧ (x < 1 → V_refuse X d 1 m1 (fun v26 m26 => Q v26 m26)) ∧ (1 ≤ x → (x ≤ 20 → ∃ c : Nat, cO c ∧ (m1 0 6 = (c : Int)) ∧ K_lastRow X d c m1 (fun v43 m43 => (-2147483648 ≤ (m1 17 7 + x) ∧ (m1 17 7 + x) < 2147483648) ∧ (-2147483648 ≤ v43 ∧ v43 < 2147483648) ∧ (m1 17 7 + x ≤ v43 → V_rows_57 X (d + 1) x 0 m43 Q) ∧ (v43 < m1 17 7 + x → V_refuse X d 4 m43 (fun v51 m51 => Q v51 m51)))) ∧ (20 < x → V_refuse X d 1 m1 (fun v26 m26 => Q v26 m26)))) ∧ (v1 = 0 → V_refuse X d 0 m1 (fun v9 m9 => Q v9 m9)))) : V_rows X (d + 1) x m Q := by
  unfold V_rows
  have hV : Clo (gP X.1 X.2.1) (d + 1) 125 3 false (Rq (gP X.1 X.2.1) (d + 1) 125 X.2.2.1 X.2.2.2 Q) := Rq_clo (q := mI125) rfl
  refine r_aload_n hV rfl rfl (pc' := 1) rfl ?_
  obtain ⟨v1, m1, h, hr⟩ := h
  refine tt_cv0I hV rfl rfl rfl (Wd_obj (hB _ _ rfl)) (Nat.le_of_ble_eq_true rfl) (Nat.le_of_ble_eq_true rfl) rfl hr (pc' := 4) rfl ?_
  obtain ⟨g1, h⟩ := h
  refine tt_if_ne hV rfl g1 (pt := 13) (by decide) (pf := 7) rfl (fun hc => ?_) (fun hc => ?_)
  · replace h := h.1 hc
    refine r_iload_n hV rfl rfl (pc' := 14) rfl ?_
    refine tt_iconst hV rfl (pc' := 15) rfl ?_
    obtain ⟨g2, h⟩ := h
    refine tt_icmp_lt hV rfl g2 (by decide) (pt := 24) (by decide) (pf := 18) rfl (fun hc => ?_) (fun hc => ?_)
    · replace h := h.1 hc
      refine r_aload_n hV rfl rfl (pc' := 25) rfl ?_
      refine tt_iconst hV rfl (pc' := 26) rfl ?_
      obtain ⟨v26, m26, h, hr⟩ := h
      refine tt_cv1I hV rfl rfl rfl (Wd_obj (hB _ _ rfl)) (Nat.le_of_ble_eq_true rfl) (Nat.le_of_ble_eq_true rfl) rfl hr (pc' := 29) rfl ?_
      exact rq_ret (q := mI125) rfl rfl rfl h
    · replace h := h.2 (Int.not_lt.mp hc)
      refine r_iload_n hV rfl rfl (pc' := 19) rfl ?_
      refine tt_bipush hV rfl (by decide) (pc' := 21) rfl ?_
      refine tt_icmp_le hV rfl g2 (by decide) (pt := 30) (by decide) (pf := 24) rfl (fun hc => ?_) (fun hc => ?_)
      · replace h := h.1 hc
        refine r_aload_n hV rfl rfl (pc' := 31) rfl ?_
        refine tt_getR hV (tg := 6) (ci := 11) (kf := 8) rfl rfl (by decide) (hB _ _ rfl) rfl (by decide) (pc' := 34) rfl ?_
        refine tt_getI hV (tg := 0) (ci := 8) (kf := 7) rfl rfl (by decide) (hB _ _ rfl) rfl (by decide) (pc' := 37) rfl ?_
        refine r_iload_n hV rfl rfl (pc' := 38) rfl ?_
        refine tt_iadd hV rfl (pc' := 39) rfl ?_
        refine r_aload_n hV rfl rfl (pc' := 40) rfl ?_
        obtain ⟨c, hc, h⟩ := h
        have hcs := csh_of hB hc
        obtain ⟨g3, h⟩ := h
        refine tt_getP hV (tg := 0) (ci := 11) (kf := 6) rfl rfl (by decide) (hB _ _ rfl) rfl (by decide) (b := c) g3 (pc' := 43) rfl ?_
        obtain ⟨v43, m43, h, hr⟩ := h
        refine tt_cv0I hV rfl rfl rfl (Wd_obj hcs.1) (Nat.le_of_ble_eq_true rfl) (Nat.le_of_ble_eq_true rfl) rfl hr (pc' := 46) rfl ?_
        obtain ⟨g4, h⟩ := h
        obtain ⟨g5, h⟩ := h
        refine tt_icmp_le hV rfl g4 g5 (pt := 55) (by decide) (pf := 49) rfl (fun hc => ?_) (fun hc => ?_)
        · replace h := h.1 hc
          refine tt_iconst hV rfl (pc' := 56) rfl ?_
          refine tt_istore2 hV rfl rfl (pc' := 57) rfl ?_
          exact h
        · replace h := h.2 (Int.not_le.mp hc)
          refine r_aload_n hV rfl rfl (pc' := 50) rfl ?_
          refine tt_iconst hV rfl (pc' := 51) rfl ?_
          obtain ⟨v51, m51, h, hr⟩ := h
          refine tt_cv1I hV rfl rfl rfl (Wd_obj (hB _ _ rfl)) (Nat.le_of_ble_eq_true rfl) (Nat.le_of_ble_eq_true rfl) rfl hr (pc' := 54) rfl ?_
          exact rq_ret (q := mI125) rfl rfl rfl h
      · replace h := h.2 (Int.not_le.mp hc)
        refine r_aload_n hV rfl rfl (pc' := 25) rfl ?_
        refine tt_iconst hV rfl (pc' := 26) rfl ?_
        obtain ⟨v26, m26, h, hr⟩ := h
        refine tt_cv1I hV rfl rfl rfl (Wd_obj (hB _ _ rfl)) (Nat.le_of_ble_eq_true rfl) (Nat.le_of_ble_eq_true rfl) rfl hr (pc' := 29) rfl ?_
        exact rq_ret (q := mI125) rfl rfl rfl h
  · replace h := h.2 (Decidable.not_not.mp hc)
    refine r_aload_n hV rfl rfl (pc' := 8) rfl ?_
    refine tt_iconst hV rfl (pc' := 9) rfl ?_
    obtain ⟨v9, m9, h, hr⟩ := h
    refine tt_cv1I hV rfl rfl rfl (Wd_obj (hB _ _ rfl)) (Nat.le_of_ble_eq_true rfl) (Nat.le_of_ble_eq_true rfl) rfl hr (pc' := 12) rfl ?_
    exact rq_ret (q := mI125) rfl rfl rfl h
theorem V_rows_57w {X : Cx} {d : Nat} {x : Int} {l2 : Int} {m : Mm} {Q : Int → Mm → Prop} (hB : Bsh X.2.2.1) (h : (-2147483648 ≤ l2 ∧ l2 < 2147483648) ∧ (-2147483648 ≤ x ∧ x < 2147483648) ∧ (x ≤ l2 → Q (m 17 8) m) ∧ (l2 < x → H_keepAct X d m (fun m70 => V_goARow X d m70 (fun m74 => V_rows_57 X (d + 1) x (l2 + 1) m74 Q)))) : V_rows_57 X (d + 1) x l2 m Q := by
  unfold V_rows_57
  have hV : Clo (gP X.1 X.2.1) (d + 1) 125 3 false (Rq (gP X.1 X.2.1) (d + 1) 125 X.2.2.1 X.2.2.2 Q) := Rq_clo (q := mI125) rfl
  refine r_iload_n hV rfl rfl (pc' := 58) rfl ?_
  refine r_iload_n hV rfl rfl (pc' := 59) rfl ?_
  obtain ⟨g6, h⟩ := h
  obtain ⟨g7, h⟩ := h
  refine tt_icmp_ge hV rfl g6 g7 (pt := 83) (by decide) (pf := 62) rfl (fun hc => ?_) (fun hc => ?_)
  · replace h := h.1 hc
    refine r_aload_n hV rfl rfl (pc' := 84) rfl ?_
    refine tt_getR hV (tg := 6) (ci := 11) (kf := 8) rfl rfl (by decide) (hB _ _ rfl) rfl (by decide) (pc' := 87) rfl ?_
    refine tt_getI hV (tg := 0) (ci := 8) (kf := 8) rfl rfl (by decide) (hB _ _ rfl) rfl (by decide) (pc' := 90) rfl ?_
    exact rq_ret (q := mI125) rfl rfl rfl h
  · replace h := h.2 (Int.not_le.mp hc)
    refine r_aload_n hV rfl rfl (pc' := 63) rfl ?_
    refine tt_getR hV (tg := 6) (ci := 11) (kf := 10) rfl rfl (by decide) (hB _ _ rfl) rfl (by decide) (pc' := 66) rfl ?_
    refine r_aload_n hV rfl rfl (pc' := 67) rfl ?_
    refine tt_getR hV (tg := 6) (ci := 11) (kf := 8) rfl rfl (by decide) (hB _ _ rfl) rfl (by decide) (pc' := 70) rfl ?_
    obtain ⟨m70, h, hr⟩ := h
    refine tt_cv1U hV rfl rfl rfl (Wd_obj (hB _ _ rfl)) (Nat.le_of_ble_eq_true rfl) (Nat.le_of_ble_eq_true rfl) rfl hr (pc' := 73) rfl ?_
    refine r_aload_n hV rfl rfl (pc' := 74) rfl ?_
    obtain ⟨m74, h, hr⟩ := h
    refine tt_cv0U hV rfl rfl rfl (Wd_obj (hB _ _ rfl)) (Nat.le_of_ble_eq_true rfl) (Nat.le_of_ble_eq_true rfl) rfl hr (pc' := 77) rfl ?_
    refine tt_iinc2 hV rfl rfl (pc' := 80) rfl ?_
    refine r_goto hV rfl (pc' := 57) (by decide) ?_
    exact h
theorem V_walkw {X : Cx} {d : Nat} {m : Mm} {Q : Int → Mm → Prop} (hB : Bsh X.2.2.1) (h : V_hasCanton X d m (fun v1 m1 => (-2147483648 ≤ v1 ∧ v1 < 2147483648) ∧ (v1 ≠ 0 → ∃ c : Nat, cO c ∧ (m1 0 6 = (c : Int)) ∧ K_lastRow X d c m1 (fun v24 m24 => (-2147483648 ≤ (m1 17 7) ∧ (m1 17 7) < 2147483648) ∧ (-2147483648 ≤ v24 ∧ v24 < 2147483648) ∧ (v24 ≤ m1 17 7 → H_keepAct X d m24 (fun m44 => (m44 0 6 = (c : Int)) ∧ T_walkBack X d 17 c m44 (fun m55 => Q (m55 17 9) m55))) ∧ (m1 17 7 < v24 → V_refuse X d 4 m24 (fun v32 m32 => Q v32 m32)))) ∧ (v1 = 0 → V_refuse X d 0 m1 (fun v9 m9 => Q v9 m9)))) : V_walk X (d + 1) m Q := by
  unfold V_walk
  have hV : Clo (gP X.1 X.2.1) (d + 1) 126 1 false (Rq (gP X.1 X.2.1) (d + 1) 126 X.2.2.1 X.2.2.2 Q) := Rq_clo (q := mI126) rfl
  refine r_aload_n hV rfl rfl (pc' := 1) rfl ?_
  obtain ⟨v1, m1, h, hr⟩ := h
  refine tt_cv0I hV rfl rfl rfl (Wd_obj (hB _ _ rfl)) (Nat.le_of_ble_eq_true rfl) (Nat.le_of_ble_eq_true rfl) rfl hr (pc' := 4) rfl ?_
  obtain ⟨g1, h⟩ := h
  refine tt_if_ne hV rfl g1 (pt := 13) (by decide) (pf := 7) rfl (fun hc => ?_) (fun hc => ?_)
  · replace h := h.1 hc
    refine r_aload_n hV rfl rfl (pc' := 14) rfl ?_
    refine tt_getR hV (tg := 6) (ci := 11) (kf := 8) rfl rfl (by decide) (hB _ _ rfl) rfl (by decide) (pc' := 17) rfl ?_
    refine tt_getI hV (tg := 0) (ci := 8) (kf := 7) rfl rfl (by decide) (hB _ _ rfl) rfl (by decide) (pc' := 20) rfl ?_
    refine r_aload_n hV rfl rfl (pc' := 21) rfl ?_
    obtain ⟨c, hc, h⟩ := h
    have hcs := csh_of hB hc
    obtain ⟨g2, h⟩ := h
    refine tt_getP hV (tg := 0) (ci := 11) (kf := 6) rfl rfl (by decide) (hB _ _ rfl) rfl (by decide) (b := c) g2 (pc' := 24) rfl ?_
    obtain ⟨v24, m24, h, hr⟩ := h
    refine tt_cv0I hV rfl rfl rfl (Wd_obj hcs.1) (Nat.le_of_ble_eq_true rfl) (Nat.le_of_ble_eq_true rfl) rfl hr (pc' := 27) rfl ?_
    obtain ⟨g3, h⟩ := h
    obtain ⟨g4, h⟩ := h
    refine tt_icmp_ge hV rfl g3 g4 (pt := 36) (by decide) (pf := 30) rfl (fun hc => ?_) (fun hc => ?_)
    · replace h := h.1 hc
      refine r_aload_n hV rfl rfl (pc' := 37) rfl ?_
      refine tt_getR hV (tg := 6) (ci := 11) (kf := 10) rfl rfl (by decide) (hB _ _ rfl) rfl (by decide) (pc' := 40) rfl ?_
      refine r_aload_n hV rfl rfl (pc' := 41) rfl ?_
      refine tt_getR hV (tg := 6) (ci := 11) (kf := 8) rfl rfl (by decide) (hB _ _ rfl) rfl (by decide) (pc' := 44) rfl ?_
      obtain ⟨m44, h, hr⟩ := h
      refine tt_cv1U hV rfl rfl rfl (Wd_obj (hB _ _ rfl)) (Nat.le_of_ble_eq_true rfl) (Nat.le_of_ble_eq_true rfl) rfl hr (pc' := 47) rfl ?_
      refine r_aload_n hV rfl rfl (pc' := 48) rfl ?_
      refine tt_getR hV (tg := 6) (ci := 11) (kf := 8) rfl rfl (by decide) (hB _ _ rfl) rfl (by decide) (pc' := 51) rfl ?_
      refine r_aload_n hV rfl rfl (pc' := 52) rfl ?_
      obtain ⟨g5, h⟩ := h
      refine tt_getP hV (tg := 0) (ci := 11) (kf := 6) rfl rfl (by decide) (hB _ _ rfl) rfl (by decide) (b := c) g5 (pc' := 55) rfl ?_
      obtain ⟨m55, h, hr⟩ := h
      refine tt_cv1U hV rfl rfl rfl (Wd_obj (hB _ _ rfl)) (Nat.le_of_ble_eq_true rfl) (Nat.le_of_ble_eq_true rfl) rfl hr (pc' := 58) rfl ?_
      refine r_aload_n hV rfl rfl (pc' := 59) rfl ?_
      refine tt_getR hV (tg := 6) (ci := 11) (kf := 8) rfl rfl (by decide) (hB _ _ rfl) rfl (by decide) (pc' := 62) rfl ?_
      refine tt_getI hV (tg := 0) (ci := 8) (kf := 9) rfl rfl (by decide) (hB _ _ rfl) rfl (by decide) (pc' := 65) rfl ?_
      exact rq_ret (q := mI126) rfl rfl rfl h
    · replace h := h.2 (Int.not_le.mp hc)
      refine r_aload_n hV rfl rfl (pc' := 31) rfl ?_
      refine tt_iconst hV rfl (pc' := 32) rfl ?_
      obtain ⟨v32, m32, h, hr⟩ := h
      refine tt_cv1I hV rfl rfl rfl (Wd_obj (hB _ _ rfl)) (Nat.le_of_ble_eq_true rfl) (Nat.le_of_ble_eq_true rfl) rfl hr (pc' := 35) rfl ?_
      exact rq_ret (q := mI126) rfl rfl rfl h
  · replace h := h.2 (Decidable.not_not.mp hc)
    refine r_aload_n hV rfl rfl (pc' := 8) rfl ?_
    refine tt_iconst hV rfl (pc' := 9) rfl ?_
    obtain ⟨v9, m9, h, hr⟩ := h
    refine tt_cv1I hV rfl rfl rfl (Wd_obj (hB _ _ rfl)) (Nat.le_of_ble_eq_true rfl) (Nat.le_of_ble_eq_true rfl) rfl hr (pc' := 12) rfl ?_
    exact rq_ret (q := mI126) rfl rfl rfl h
theorem V_dogsw {X : Cx} {d : Nat} {x : Int} {m : Mm} {Q : Int → Mm → Prop} (hB : Bsh X.2.2.1) (h : (-2147483648 ≤ x ∧ x < 2147483648) ∧ (x < 0 → Q 0 m) ∧ (0 ≤ x → (9 < x → Q 0 m) ∧ (x ≤ 9 → (-2147483648 ≤ (m 0 14) ∧ (m 0 14) < 2147483648) ∧ (x ≠ m 0 14 → Q 1 (up m 0 14 x)) ∧ (x = m 0 14 → Q 0 m)))) : V_dogs X d x m Q := by
  unfold V_dogs
  have hV : Clo (gP X.1 X.2.1) d 127 2 false (Rq (gP X.1 X.2.1) d 127 X.2.2.1 X.2.2.2 Q) := Rq_clo (q := mI127) rfl
  refine r_iload_n hV rfl rfl (pc' := 1) rfl ?_
  obtain ⟨g1, h⟩ := h
  refine tt_if_lt hV rfl g1 (pt := 18) (by decide) (pf := 4) rfl (fun hc => ?_) (fun hc => ?_)
  · replace h := h.1 hc
    refine tt_iconst hV rfl (pc' := 19) rfl ?_
    exact rq_ret (q := mI127) rfl rfl rfl h
  · replace h := h.2 (Int.not_lt.mp hc)
    refine r_iload_n hV rfl rfl (pc' := 5) rfl ?_
    refine tt_bipush hV rfl (by decide) (pc' := 7) rfl ?_
    refine tt_icmp_gt hV rfl g1 (by decide) (pt := 18) (by decide) (pf := 10) rfl (fun hc => ?_) (fun hc => ?_)
    · replace h := h.1 hc
      refine tt_iconst hV rfl (pc' := 19) rfl ?_
      exact rq_ret (q := mI127) rfl rfl rfl h
    · replace h := h.2 (Int.not_lt.mp hc)
      refine r_iload_n hV rfl rfl (pc' := 11) rfl ?_
      refine r_aload_n hV rfl rfl (pc' := 12) rfl ?_
      refine tt_getI hV (tg := 0) (ci := 11) (kf := 14) rfl rfl (by decide) (hB _ _ rfl) rfl (by decide) (pc' := 15) rfl ?_
      obtain ⟨g2, h⟩ := h
      refine tt_icmp_ne hV rfl g1 g2 (pt := 20) (by decide) (pf := 18) rfl (fun hc => ?_) (fun hc => ?_)
      · replace h := h.1 hc
        refine r_aload_n hV rfl rfl (pc' := 21) rfl ?_
        refine r_iload_n hV rfl rfl (pc' := 22) rfl ?_
        refine tt_putI hV (tg := 0) (ci := 11) (kf := 14) rfl rfl (Or.inl rfl) (hB _ _ rfl) rfl (by decide) rfl (pc' := 25) rfl ?_
        refine tt_iconst hV rfl (pc' := 26) rfl ?_
        exact rq_ret (q := mI127) rfl rfl rfl h
      · replace h := h.2 (Decidable.not_not.mp hc)
        refine tt_iconst hV rfl (pc' := 19) rfl ?_
        exact rq_ret (q := mI127) rfl rfl rfl h
theorem V_sessionsw {X : Cx} {d : Nat} {x : Int} {y : Int} {m : Mm} {Q : Int → Mm → Prop} (hB : Bsh X.2.2.1) (h : V_hasCanton X d m (fun v1 m1 => (-2147483648 ≤ v1 ∧ v1 < 2147483648) ∧ (v1 = 0 → Q (-1) m1) ∧ (v1 ≠ 0 → (-2147483648 ≤ x ∧ x < 2147483648) ∧ (x < 1 → Q (-1) m1) ∧ (1 ≤ x → (x ≤ 20 → V_sessions_28 X (d + 1) x y 0 (up m1 0 15 y) Q) ∧ (20 < x → Q (-1) m1))))) : V_sessions X (d + 1) x y m Q := by
  unfold V_sessions
  have hV : Clo (gP X.1 X.2.1) (d + 1) 128 5 false (Rq (gP X.1 X.2.1) (d + 1) 128 X.2.2.1 X.2.2.2 Q) := Rq_clo (q := mI128) rfl
  refine r_aload_n hV rfl rfl (pc' := 1) rfl ?_
  obtain ⟨v1, m1, h, hr⟩ := h
  refine tt_cv0I hV rfl rfl rfl (Wd_obj (hB _ _ rfl)) (Nat.le_of_ble_eq_true rfl) (Nat.le_of_ble_eq_true rfl) rfl hr (pc' := 4) rfl ?_
  obtain ⟨g1, h⟩ := h
  refine tt_if_eq hV rfl g1 (pt := 18) (by decide) (pf := 7) rfl (fun hc => ?_) (fun hc => ?_)
  · replace h := h.1 hc
    refine tt_iconst hV rfl (pc' := 19) rfl ?_
    exact rq_ret (q := mI128) rfl rfl rfl h
  · replace h := h.2 hc
    refine r_iload_n hV rfl rfl (pc' := 8) rfl ?_
    refine tt_iconst hV rfl (pc' := 9) rfl ?_
    obtain ⟨g2, h⟩ := h
    refine tt_icmp_lt hV rfl g2 (by decide) (pt := 18) (by decide) (pf := 12) rfl (fun hc => ?_) (fun hc => ?_)
    · replace h := h.1 hc
      refine tt_iconst hV rfl (pc' := 19) rfl ?_
      exact rq_ret (q := mI128) rfl rfl rfl h
    · replace h := h.2 (Int.not_lt.mp hc)
      refine r_iload_n hV rfl rfl (pc' := 13) rfl ?_
      refine tt_bipush hV rfl (by decide) (pc' := 15) rfl ?_
      refine tt_icmp_le hV rfl g2 (by decide) (pt := 20) (by decide) (pf := 18) rfl (fun hc => ?_) (fun hc => ?_)
      · replace h := h.1 hc
        refine r_aload_n hV rfl rfl (pc' := 21) rfl ?_
        refine r_lload_n hV rfl rfl (pc' := 22) rfl ?_
        refine tt_putJ hV (tg := 0) (ci := 11) (kf := 15) rfl rfl (Or.inl rfl) (hB _ _ rfl) rfl (by decide) rfl (pc' := 25) rfl ?_
        refine tt_iconst hV rfl (pc' := 26) rfl ?_
        refine tt_istore4 hV rfl rfl (pc' := 28) rfl ?_
        exact h
      · replace h := h.2 (Int.not_le.mp hc)
        refine tt_iconst hV rfl (pc' := 19) rfl ?_
        exact rq_ret (q := mI128) rfl rfl rfl h
theorem V_sessions_28w {X : Cx} {d : Nat} {x : Int} {y : Int} {l4 : Int} {m : Mm} {Q : Int → Mm → Prop} (hB : Bsh X.2.2.1) (h : (-2147483648 ≤ l4 ∧ l4 < 2147483648) ∧ (-2147483648 ≤ x ∧ x < 2147483648) ∧ (x ≤ l4 → Q (m 17 8) m) ∧ (l4 < x → H_keepAct X d m (fun m42 => V_holdSession X d m42 (fun m46 => V_sessions_28 X (d + 1) x y (l4 + 1) m46 Q)))) : V_sessions_28 X (d + 1) x y l4 m Q := by
  unfold V_sessions_28
  have hV : Clo (gP X.1 X.2.1) (d + 1) 128 5 false (Rq (gP X.1 X.2.1) (d + 1) 128 X.2.2.1 X.2.2.2 Q) := Rq_clo (q := mI128) rfl
  refine r_iload hV rfl rfl (pc' := 30) rfl ?_
  refine r_iload_n hV rfl rfl (pc' := 31) rfl ?_
  obtain ⟨g3, h⟩ := h
  obtain ⟨g4, h⟩ := h
  refine tt_icmp_ge hV rfl g3 g4 (pt := 55) (by decide) (pf := 34) rfl (fun hc => ?_) (fun hc => ?_)
  · replace h := h.1 hc
    refine r_aload_n hV rfl rfl (pc' := 56) rfl ?_
    refine tt_getR hV (tg := 6) (ci := 11) (kf := 8) rfl rfl (by decide) (hB _ _ rfl) rfl (by decide) (pc' := 59) rfl ?_
    refine tt_getI hV (tg := 0) (ci := 8) (kf := 8) rfl rfl (by decide) (hB _ _ rfl) rfl (by decide) (pc' := 62) rfl ?_
    exact rq_ret (q := mI128) rfl rfl rfl h
  · replace h := h.2 (Int.not_le.mp hc)
    refine r_aload_n hV rfl rfl (pc' := 35) rfl ?_
    refine tt_getR hV (tg := 6) (ci := 11) (kf := 10) rfl rfl (by decide) (hB _ _ rfl) rfl (by decide) (pc' := 38) rfl ?_
    refine r_aload_n hV rfl rfl (pc' := 39) rfl ?_
    refine tt_getR hV (tg := 6) (ci := 11) (kf := 8) rfl rfl (by decide) (hB _ _ rfl) rfl (by decide) (pc' := 42) rfl ?_
    obtain ⟨m42, h, hr⟩ := h
    refine tt_cv1U hV rfl rfl rfl (Wd_obj (hB _ _ rfl)) (Nat.le_of_ble_eq_true rfl) (Nat.le_of_ble_eq_true rfl) rfl hr (pc' := 45) rfl ?_
    refine r_aload_n hV rfl rfl (pc' := 46) rfl ?_
    obtain ⟨m46, h, hr⟩ := h
    refine tt_cv0U hV rfl rfl rfl (Wd_obj (hB _ _ rfl)) (Nat.le_of_ble_eq_true rfl) (Nat.le_of_ble_eq_true rfl) rfl hr (pc' := 49) rfl ?_
    refine tt_iinc4 hV rfl rfl (pc' := 52) rfl ?_
    refine r_goto hV rfl (pc' := 28) (by decide) ?_
    exact h
theorem V_statusw {X : Cx} {d : Nat} {x : Int} {m : Mm} {Q : Int → Mm → Prop} (hB : Bsh X.2.2.1) (h : (-2147483648 ≤ x ∧ x < 2147483648) ∧ (x < 0 → Q (-1) m) ∧ (0 ≤ x → (x < 5 → (0 ≤ x ∧ x < 5) ∧ Q (m 82 x) m) ∧ (5 ≤ x → Q (-1) m))) : V_status X d x m Q := by
  unfold V_status
  have hV : Clo (gP X.1 X.2.1) d 129 2 false (Rq (gP X.1 X.2.1) d 129 X.2.2.1 X.2.2.2 Q) := Rq_clo (q := mI129) rfl
  refine r_iload_n hV rfl rfl (pc' := 1) rfl ?_
  obtain ⟨g1, h⟩ := h
  refine tt_if_lt hV rfl g1 (pt := 13) (by decide) (pf := 4) rfl (fun hc => ?_) (fun hc => ?_)
  · replace h := h.1 hc
    refine tt_iconst hV rfl (pc' := 14) rfl ?_
    refine r_goto hV rfl (pc' := 23) (by decide) ?_
    exact rq_ret (q := mI129) rfl rfl rfl h
  · replace h := h.2 (Int.not_lt.mp hc)
    refine r_iload_n hV rfl rfl (pc' := 5) rfl ?_
    refine r_aload_n hV rfl rfl (pc' := 6) rfl ?_
    refine tt_getR hV (tg := 6) (ci := 11) (kf := 13) rfl rfl (by decide) (hB _ _ rfl) rfl (by decide) (pc' := 9) rfl ?_
    refine q_alen hV rfl (hB _ _ rfl) (by decide) (z := 5) rfl (pc' := 10) rfl ?_
    refine tt_icmp_lt hV rfl g1 (by decide) (pt := 17) (by decide) (pf := 13) rfl (fun hc => ?_) (fun hc => ?_)
    · replace h := h.1 hc
      refine r_aload_n hV rfl rfl (pc' := 18) rfl ?_
      refine tt_getR hV (tg := 6) (ci := 11) (kf := 13) rfl rfl (by decide) (hB _ _ rfl) rfl (by decide) (pc' := 21) rfl ?_
      refine r_iload_n hV rfl rfl (pc' := 22) rfl ?_
      obtain ⟨g2, h⟩ := h
      refine q_iald hV rfl (hB _ _ rfl) (Nat.le_of_ble_eq_true rfl) rfl g2 (pc' := 23) rfl ?_
      exact rq_ret (q := mI129) rfl rfl rfl h
    · replace h := h.2 (Int.not_lt.mp hc)
      refine tt_iconst hV rfl (pc' := 14) rfl ?_
      refine r_goto hV rfl (pc' := 23) (by decide) ?_
      exact rq_ret (q := mI129) rfl rfl rfl h
theorem V_undow {X : Cx} {d : Nat} {m : Mm} {Q : Int → Mm → Prop} (hB : Bsh X.2.2.1) (h : (-2147483648 ≤ (m 21 0) ∧ (m 21 0) < 2147483648) ∧ (m 21 0 ≠ 0 → H_takeActBack X d m (fun m20 => Q (m20 21 0) m20)) ∧ (m 21 0 = 0 → Q (-1) m)) : V_undo X (d + 1) m Q := by
  unfold V_undo
  have hV : Clo (gP X.1 X.2.1) (d + 1) 130 1 false (Rq (gP X.1 X.2.1) (d + 1) 130 X.2.2.1 X.2.2.2 Q) := Rq_clo (q := mI130) rfl
  refine r_aload_n hV rfl rfl (pc' := 1) rfl ?_
  refine tt_getR hV (tg := 6) (ci := 11) (kf := 10) rfl rfl (by decide) (hB _ _ rfl) rfl (by decide) (pc' := 4) rfl ?_
  refine tt_getI hV (tg := 0) (ci := 3) (kf := 0) rfl rfl (by decide) (hB _ _ rfl) rfl (by decide) (pc' := 7) rfl ?_
  obtain ⟨g1, h⟩ := h
  refine tt_if_ne hV rfl g1 (pt := 12) (by decide) (pf := 10) rfl (fun hc => ?_) (fun hc => ?_)
  · replace h := h.1 hc
    refine r_aload_n hV rfl rfl (pc' := 13) rfl ?_
    refine tt_getR hV (tg := 6) (ci := 11) (kf := 10) rfl rfl (by decide) (hB _ _ rfl) rfl (by decide) (pc' := 16) rfl ?_
    refine r_aload_n hV rfl rfl (pc' := 17) rfl ?_
    refine tt_getR hV (tg := 6) (ci := 11) (kf := 8) rfl rfl (by decide) (hB _ _ rfl) rfl (by decide) (pc' := 20) rfl ?_
    obtain ⟨m20, h, hr⟩ := h
    refine tt_cv1U hV rfl rfl rfl (Wd_obj (hB _ _ rfl)) (Nat.le_of_ble_eq_true rfl) (Nat.le_of_ble_eq_true rfl) rfl hr (pc' := 23) rfl ?_
    refine r_aload_n hV rfl rfl (pc' := 24) rfl ?_
    refine tt_getR hV (tg := 6) (ci := 11) (kf := 10) rfl rfl (by decide) (hB _ _ rfl) rfl (by decide) (pc' := 27) rfl ?_
    refine tt_getI hV (tg := 0) (ci := 3) (kf := 0) rfl rfl (by decide) (hB _ _ rfl) rfl (by decide) (pc' := 30) rfl ?_
    exact rq_ret (q := mI130) rfl rfl rfl h
  · replace h := h.2 (Decidable.not_not.mp hc)
    refine tt_iconst hV rfl (pc' := 11) rfl ?_
    exact rq_ret (q := mI130) rfl rfl rfl h
theorem V_logw {X : Cx} {d : Nat} {x : Int} {y : Int} {m : Mm} {Q : Int → Mm → Prop} (hB : Bsh X.2.2.1) (h : (-2147483648 ≤ x ∧ x < 2147483648) ∧ (x < 0 → Q (-1000000) m) ∧ (0 ≤ x → H_lengthOfLog X d m (fun v13 m13 => (-2147483648 ≤ v13 ∧ v13 < 2147483648) ∧ (v13 ≤ x → Q (-1000000) m13) ∧ (x < v13 → (-2147483648 ≤ y ∧ y < 2147483648) ∧ (y < 0 → Q (-1000000) m13) ∧ (0 ≤ y → (y ≤ 2 → H_entryAt X d x m13 (fun v40 m40 => (y ≠ 0 → (y ≠ 1 → H_fallenIn X d v40 m40 (fun v66 m66 => Q v66 m66)) ∧ (y = 1 → H_sumIn X d v40 m40 (fun v59 m59 => Q v59 m59))) ∧ (y = 0 → H_columnIn X d v40 m40 (fun v49 m49 => Q v49 m49)))) ∧ (2 < y → Q (-1000000) m13)))))) : V_log X (d + 1) x y m Q := by
  unfold V_log
  have hV : Clo (gP X.1 X.2.1) (d + 1) 131 4 false (Rq (gP X.1 X.2.1) (d + 1) 131 X.2.2.1 X.2.2.2 Q) := Rq_clo (q := mI131) rfl
  refine r_iload_n hV rfl rfl (pc' := 1) rfl ?_
  obtain ⟨g1, h⟩ := h
  refine tt_if_lt hV rfl g1 (pt := 28) (by decide) (pf := 4) rfl (fun hc => ?_) (fun hc => ?_)
  · replace h := h.1 hc
    refine v_ldc hV (Int32.ofInt (-1000000)) rfl rfl rfl (pc' := 30) rfl ?_
    exact rq_ret (q := mI131) rfl rfl rfl h
  · replace h := h.2 (Int.not_lt.mp hc)
    refine r_iload_n hV rfl rfl (pc' := 5) rfl ?_
    refine r_aload_n hV rfl rfl (pc' := 6) rfl ?_
    refine tt_getR hV (tg := 6) (ci := 11) (kf := 10) rfl rfl (by decide) (hB _ _ rfl) rfl (by decide) (pc' := 9) rfl ?_
    refine r_aload_n hV rfl rfl (pc' := 10) rfl ?_
    refine tt_getR hV (tg := 6) (ci := 11) (kf := 8) rfl rfl (by decide) (hB _ _ rfl) rfl (by decide) (pc' := 13) rfl ?_
    obtain ⟨v13, m13, h, hr⟩ := h
    refine tt_cv1I hV rfl rfl rfl (Wd_obj (hB _ _ rfl)) (Nat.le_of_ble_eq_true rfl) (Nat.le_of_ble_eq_true rfl) rfl hr (pc' := 16) rfl ?_
    obtain ⟨g2, h⟩ := h
    refine tt_icmp_ge hV rfl g1 g2 (pt := 28) (by decide) (pf := 19) rfl (fun hc => ?_) (fun hc => ?_)
    · replace h := h.1 hc
      refine v_ldc hV (Int32.ofInt (-1000000)) rfl rfl rfl (pc' := 30) rfl ?_
      exact rq_ret (q := mI131) rfl rfl rfl h
    · replace h := h.2 (Int.not_le.mp hc)
      refine r_iload_n hV rfl rfl (pc' := 20) rfl ?_
      obtain ⟨g3, h⟩ := h
      refine tt_if_lt hV rfl g3 (pt := 28) (by decide) (pf := 23) rfl (fun hc => ?_) (fun hc => ?_)
      · replace h := h.1 hc
        refine v_ldc hV (Int32.ofInt (-1000000)) rfl rfl rfl (pc' := 30) rfl ?_
        exact rq_ret (q := mI131) rfl rfl rfl h
      · replace h := h.2 (Int.not_lt.mp hc)
        refine r_iload_n hV rfl rfl (pc' := 24) rfl ?_
        refine tt_iconst hV rfl (pc' := 25) rfl ?_
        refine tt_icmp_le hV rfl g3 (by decide) (pt := 31) (by decide) (pf := 28) rfl (fun hc => ?_) (fun hc => ?_)
        · replace h := h.1 hc
          refine r_aload_n hV rfl rfl (pc' := 32) rfl ?_
          refine tt_getR hV (tg := 6) (ci := 11) (kf := 10) rfl rfl (by decide) (hB _ _ rfl) rfl (by decide) (pc' := 35) rfl ?_
          refine r_aload_n hV rfl rfl (pc' := 36) rfl ?_
          refine tt_getR hV (tg := 6) (ci := 11) (kf := 8) rfl rfl (by decide) (hB _ _ rfl) rfl (by decide) (pc' := 39) rfl ?_
          refine r_iload_n hV rfl rfl (pc' := 40) rfl ?_
          obtain ⟨v40, m40, h, hr⟩ := h
          refine tt_cv2I hV rfl rfl rfl (Wd_obj (hB _ _ rfl)) (Nat.le_of_ble_eq_true rfl) (Nat.le_of_ble_eq_true rfl) rfl hr (pc' := 43) rfl ?_
          refine tt_istore3 hV rfl rfl (pc' := 44) rfl ?_
          refine r_iload_n hV rfl rfl (pc' := 45) rfl ?_
          refine tt_if_ne hV rfl g3 (pt := 53) (by decide) (pf := 48) rfl (fun hc => ?_) (fun hc => ?_)
          · replace h := h.1 hc
            refine r_iload_n hV rfl rfl (pc' := 54) rfl ?_
            refine tt_iconst hV rfl (pc' := 55) rfl ?_
            refine tt_icmp_ne hV rfl g3 (by decide) (pt := 65) (by decide) (pf := 58) rfl (fun hc => ?_) (fun hc => ?_)
            · replace h := h.1 hc
              refine r_iload_n hV rfl rfl (pc' := 66) rfl ?_
              obtain ⟨v66, m66, h, hr⟩ := h
              refine tt_cs1I hV rfl rfl rfl (Nat.le_of_ble_eq_true rfl) (Nat.le_of_ble_eq_true rfl) rfl hr (pc' := 69) rfl ?_
              exact rq_ret (q := mI131) rfl rfl rfl h
            · replace h := h.2 (Decidable.not_not.mp hc)
              refine r_iload_n hV rfl rfl (pc' := 59) rfl ?_
              obtain ⟨v59, m59, h, hr⟩ := h
              refine tt_cs1I hV rfl rfl rfl (Nat.le_of_ble_eq_true rfl) (Nat.le_of_ble_eq_true rfl) rfl hr (pc' := 62) rfl ?_
              refine r_goto hV rfl (pc' := 69) (by decide) ?_
              exact rq_ret (q := mI131) rfl rfl rfl h
          · replace h := h.2 (Decidable.not_not.mp hc)
            refine r_iload_n hV rfl rfl (pc' := 49) rfl ?_
            obtain ⟨v49, m49, h, hr⟩ := h
            refine tt_cs1I hV rfl rfl rfl (Nat.le_of_ble_eq_true rfl) (Nat.le_of_ble_eq_true rfl) rfl hr (pc' := 52) rfl ?_
            exact rq_ret (q := mI131) rfl rfl rfl h
        · replace h := h.2 (Int.not_le.mp hc)
          refine v_ldc hV (Int32.ofInt (-1000000)) rfl rfl rfl (pc' := 30) rfl ?_
          exact rq_ret (q := mI131) rfl rfl rfl h
theorem V_endsw {X : Cx} {d : Nat} {x : Int} {m : Mm} {Q : Int → Mm → Prop} (hB : Bsh X.2.2.1) (h : V_hasCanton X d m (fun v1 m1 => (-2147483648 ≤ v1 ∧ v1 < 2147483648) ∧ (v1 = 0 → Q (-1) m1) ∧ (v1 ≠ 0 → (-2147483648 ≤ x ∧ x < 2147483648) ∧ (x < 0 → Q (-1) m1) ∧ (0 ≤ x → (2 < x → Q (-1) m1) ∧ (x ≤ 2 → O_atEnd X d x m1 (fun v25 m25 => Q v25 m25)))))) : V_ends X (d + 1) x m Q := by
  unfold V_ends
  have hV : Clo (gP X.1 X.2.1) (d + 1) 132 2 false (Rq (gP X.1 X.2.1) (d + 1) 132 X.2.2.1 X.2.2.2 Q) := Rq_clo (q := mI132) rfl
  refine r_aload_n hV rfl rfl (pc' := 1) rfl ?_
  obtain ⟨v1, m1, h, hr⟩ := h
  refine tt_cv0I hV rfl rfl rfl (Wd_obj (hB _ _ rfl)) (Nat.le_of_ble_eq_true rfl) (Nat.le_of_ble_eq_true rfl) rfl hr (pc' := 4) rfl ?_
  obtain ⟨g1, h⟩ := h
  refine tt_if_eq hV rfl g1 (pt := 31) (by decide) (pf := 7) rfl (fun hc => ?_) (fun hc => ?_)
  · replace h := h.1 hc
    refine tt_iconst hV rfl (pc' := 32) rfl ?_
    exact rq_ret (q := mI132) rfl rfl rfl h
  · replace h := h.2 hc
    refine r_iload_n hV rfl rfl (pc' := 8) rfl ?_
    obtain ⟨g2, h⟩ := h
    refine tt_if_lt hV rfl g2 (pt := 31) (by decide) (pf := 11) rfl (fun hc => ?_) (fun hc => ?_)
    · replace h := h.1 hc
      refine tt_iconst hV rfl (pc' := 32) rfl ?_
      exact rq_ret (q := mI132) rfl rfl rfl h
    · replace h := h.2 (Int.not_lt.mp hc)
      refine r_iload_n hV rfl rfl (pc' := 12) rfl ?_
      refine tt_iconst hV rfl (pc' := 13) rfl ?_
      refine tt_icmp_gt hV rfl g2 (by decide) (pt := 31) (by decide) (pf := 16) rfl (fun hc => ?_) (fun hc => ?_)
      · replace h := h.1 hc
        refine tt_iconst hV rfl (pc' := 32) rfl ?_
        exact rq_ret (q := mI132) rfl rfl rfl h
      · replace h := h.2 (Int.not_lt.mp hc)
        refine r_aload_n hV rfl rfl (pc' := 17) rfl ?_
        refine tt_getR hV (tg := 6) (ci := 11) (kf := 11) rfl rfl (by decide) (hB _ _ rfl) rfl (by decide) (pc' := 20) rfl ?_
        refine r_aload_n hV rfl rfl (pc' := 21) rfl ?_
        refine tt_getR hV (tg := 6) (ci := 11) (kf := 8) rfl rfl (by decide) (hB _ _ rfl) rfl (by decide) (pc' := 24) rfl ?_
        refine r_iload_n hV rfl rfl (pc' := 25) rfl ?_
        obtain ⟨v25, m25, h, hr⟩ := h
        refine tt_cv2I hV rfl rfl rfl (Wd_obj (hB _ _ rfl)) (Nat.le_of_ble_eq_true rfl) (Nat.le_of_ble_eq_true rfl) rfl hr (pc' := 28) rfl ?_
        refine r_goto hV rfl (pc' := 32) (by decide) ?_
        exact rq_ret (q := mI132) rfl rfl rfl h
theorem V_aheadw {X : Cx} {d : Nat} {x : Int} {m : Mm} {Q : Int → Mm → Prop} (hB : Bsh X.2.2.1) (h : V_hasCanton X d m (fun v1 m1 => (-2147483648 ≤ v1 ∧ v1 < 2147483648) ∧ (v1 = 0 → Q (-1) m1) ∧ (v1 ≠ 0 → (-2147483648 ≤ x ∧ x < 2147483648) ∧ (x < 0 → Q (-1) m1) ∧ (0 ≤ x → (20 < x → Q (-1) m1) ∧ (x ≤ 20 → O_columnAfter X d x m1 (fun v26 m26 => Q v26 m26)))))) : V_ahead X (d + 1) x m Q := by
  unfold V_ahead
  have hV : Clo (gP X.1 X.2.1) (d + 1) 133 2 false (Rq (gP X.1 X.2.1) (d + 1) 133 X.2.2.1 X.2.2.2 Q) := Rq_clo (q := mI133) rfl
  refine r_aload_n hV rfl rfl (pc' := 1) rfl ?_
  obtain ⟨v1, m1, h, hr⟩ := h
  refine tt_cv0I hV rfl rfl rfl (Wd_obj (hB _ _ rfl)) (Nat.le_of_ble_eq_true rfl) (Nat.le_of_ble_eq_true rfl) rfl hr (pc' := 4) rfl ?_
  obtain ⟨g1, h⟩ := h
  refine tt_if_eq hV rfl g1 (pt := 32) (by decide) (pf := 7) rfl (fun hc => ?_) (fun hc => ?_)
  · replace h := h.1 hc
    refine tt_iconst hV rfl (pc' := 33) rfl ?_
    exact rq_ret (q := mI133) rfl rfl rfl h
  · replace h := h.2 hc
    refine r_iload_n hV rfl rfl (pc' := 8) rfl ?_
    obtain ⟨g2, h⟩ := h
    refine tt_if_lt hV rfl g2 (pt := 32) (by decide) (pf := 11) rfl (fun hc => ?_) (fun hc => ?_)
    · replace h := h.1 hc
      refine tt_iconst hV rfl (pc' := 33) rfl ?_
      exact rq_ret (q := mI133) rfl rfl rfl h
    · replace h := h.2 (Int.not_lt.mp hc)
      refine r_iload_n hV rfl rfl (pc' := 12) rfl ?_
      refine tt_bipush hV rfl (by decide) (pc' := 14) rfl ?_
      refine tt_icmp_gt hV rfl g2 (by decide) (pt := 32) (by decide) (pf := 17) rfl (fun hc => ?_) (fun hc => ?_)
      · replace h := h.1 hc
        refine tt_iconst hV rfl (pc' := 33) rfl ?_
        exact rq_ret (q := mI133) rfl rfl rfl h
      · replace h := h.2 (Int.not_lt.mp hc)
        refine r_aload_n hV rfl rfl (pc' := 18) rfl ?_
        refine tt_getR hV (tg := 6) (ci := 11) (kf := 11) rfl rfl (by decide) (hB _ _ rfl) rfl (by decide) (pc' := 21) rfl ?_
        refine r_aload_n hV rfl rfl (pc' := 22) rfl ?_
        refine tt_getR hV (tg := 6) (ci := 11) (kf := 8) rfl rfl (by decide) (hB _ _ rfl) rfl (by decide) (pc' := 25) rfl ?_
        refine r_iload_n hV rfl rfl (pc' := 26) rfl ?_
        obtain ⟨v26, m26, h, hr⟩ := h
        refine tt_cv2I hV rfl rfl rfl (Wd_obj (hB _ _ rfl)) (Nat.le_of_ble_eq_true rfl) (Nat.le_of_ble_eq_true rfl) rfl hr (pc' := 29) rfl ?_
        refine r_goto hV rfl (pc' := 33) (by decide) ?_
        exact rq_ret (q := mI133) rfl rfl rfl h
theorem V_turnw {X : Cx} {d : Nat} {x : Int} {y : Int} {m : Mm} {Q : Int → Mm → Prop} (hB : Bsh X.2.2.1) (h : V_hasCanton X d m (fun v1 m1 => (-2147483648 ≤ v1 ∧ v1 < 2147483648) ∧ (v1 = 0 → Q (-1) m1) ∧ (v1 ≠ 0 → V_isSide X d x m1 (fun v8 m8 => (-2147483648 ≤ v8 ∧ v8 < 2147483648) ∧ (v8 = 0 → Q (-1) m8) ∧ (v8 ≠ 0 → (-2147483648 ≤ y ∧ y < 2147483648) ∧ (y < 0 → Q (-1) m8) ∧ (0 ≤ y → (y ≤ 1 → O_searchLeans X d x m8 (fun m34 => (y ≠ 0 → Q (m34 66 2) m34) ∧ (y = 0 → Q (m34 66 1) m34))) ∧ (1 < y → Q (-1) m8))))))) : V_turn X (d + 1) x y m Q := by
  unfold V_turn
  have hV : Clo (gP X.1 X.2.1) (d + 1) 134 3 false (Rq (gP X.1 X.2.1) (d + 1) 134 X.2.2.1 X.2.2.2 Q) := Rq_clo (q := mI134) rfl
  refine r_aload_n hV rfl rfl (pc' := 1) rfl ?_
  obtain ⟨v1, m1, h, hr⟩ := h
  refine tt_cv0I hV rfl rfl rfl (Wd_obj (hB _ _ rfl)) (Nat.le_of_ble_eq_true rfl) (Nat.le_of_ble_eq_true rfl) rfl hr (pc' := 4) rfl ?_
  obtain ⟨g1, h⟩ := h
  refine tt_if_eq hV rfl g1 (pt := 23) (by decide) (pf := 7) rfl (fun hc => ?_) (fun hc => ?_)
  · replace h := h.1 hc
    refine tt_iconst hV rfl (pc' := 24) rfl ?_
    exact rq_ret (q := mI134) rfl rfl rfl h
  · replace h := h.2 hc
    refine r_iload_n hV rfl rfl (pc' := 8) rfl ?_
    obtain ⟨v8, m8, h, hr⟩ := h
    refine tt_cs1I hV rfl rfl rfl (Nat.le_of_ble_eq_true rfl) (Nat.le_of_ble_eq_true rfl) rfl hr (pc' := 11) rfl ?_
    obtain ⟨g2, h⟩ := h
    refine tt_if_eq hV rfl g2 (pt := 23) (by decide) (pf := 14) rfl (fun hc => ?_) (fun hc => ?_)
    · replace h := h.1 hc
      refine tt_iconst hV rfl (pc' := 24) rfl ?_
      exact rq_ret (q := mI134) rfl rfl rfl h
    · replace h := h.2 hc
      refine r_iload_n hV rfl rfl (pc' := 15) rfl ?_
      obtain ⟨g3, h⟩ := h
      refine tt_if_lt hV rfl g3 (pt := 23) (by decide) (pf := 18) rfl (fun hc => ?_) (fun hc => ?_)
      · replace h := h.1 hc
        refine tt_iconst hV rfl (pc' := 24) rfl ?_
        exact rq_ret (q := mI134) rfl rfl rfl h
      · replace h := h.2 (Int.not_lt.mp hc)
        refine r_iload_n hV rfl rfl (pc' := 19) rfl ?_
        refine tt_iconst hV rfl (pc' := 20) rfl ?_
        refine tt_icmp_le hV rfl g3 (by decide) (pt := 25) (by decide) (pf := 23) rfl (fun hc => ?_) (fun hc => ?_)
        · replace h := h.1 hc
          refine r_aload_n hV rfl rfl (pc' := 26) rfl ?_
          refine tt_getR hV (tg := 6) (ci := 11) (kf := 11) rfl rfl (by decide) (hB _ _ rfl) rfl (by decide) (pc' := 29) rfl ?_
          refine r_aload_n hV rfl rfl (pc' := 30) rfl ?_
          refine tt_getR hV (tg := 6) (ci := 11) (kf := 8) rfl rfl (by decide) (hB _ _ rfl) rfl (by decide) (pc' := 33) rfl ?_
          refine r_iload_n hV rfl rfl (pc' := 34) rfl ?_
          obtain ⟨m34, h, hr⟩ := h
          refine tt_cv2U hV rfl rfl rfl (Wd_obj (hB _ _ rfl)) (Nat.le_of_ble_eq_true rfl) (Nat.le_of_ble_eq_true rfl) rfl hr (pc' := 37) rfl ?_
          refine r_iload_n hV rfl rfl (pc' := 38) rfl ?_
          refine tt_if_ne hV rfl g3 (pt := 51) (by decide) (pf := 41) rfl (fun hc => ?_) (fun hc => ?_)
          · replace h := h.1 hc
            refine r_aload_n hV rfl rfl (pc' := 52) rfl ?_
            refine tt_getR hV (tg := 6) (ci := 11) (kf := 11) rfl rfl (by decide) (hB _ _ rfl) rfl (by decide) (pc' := 55) rfl ?_
            refine tt_getI hV (tg := 0) (ci := 6) (kf := 2) rfl rfl (by decide) (hB _ _ rfl) rfl (by decide) (pc' := 58) rfl ?_
            exact rq_ret (q := mI134) rfl rfl rfl h
          · replace h := h.2 (Decidable.not_not.mp hc)
            refine r_aload_n hV rfl rfl (pc' := 42) rfl ?_
            refine tt_getR hV (tg := 6) (ci := 11) (kf := 11) rfl rfl (by decide) (hB _ _ rfl) rfl (by decide) (pc' := 45) rfl ?_
            refine tt_getI hV (tg := 0) (ci := 6) (kf := 1) rfl rfl (by decide) (hB _ _ rfl) rfl (by decide) (pc' := 48) rfl ?_
            refine r_goto hV rfl (pc' := 58) (by decide) ?_
            exact rq_ret (q := mI134) rfl rfl rfl h
        · replace h := h.2 (Int.not_le.mp hc)
          refine tt_iconst hV rfl (pc' := 24) rfl ?_
          exact rq_ret (q := mI134) rfl rfl rfl h
theorem V_seatingw {X : Cx} {d : Nat} {x : Int} {y : Int} {m : Mm} {Q : Int → Mm → Prop} (hB : Bsh X.2.2.1) (h : V_hasCanton X d m (fun v1 m1 => (-2147483648 ≤ v1 ∧ v1 < 2147483648) ∧ (v1 = 0 → Q (-1) m1) ∧ (v1 ≠ 0 → V_isSide X d x m1 (fun v8 m8 => (-2147483648 ≤ v8 ∧ v8 < 2147483648) ∧ (v8 = 0 → Q (-1) m8) ∧ (v8 ≠ 0 → (-2147483648 ≤ y ∧ y < 2147483648) ∧ (y < 0 → Q (-1) m8) ∧ (0 ≤ y → (y ≤ 1 → O_searchSeats X d x m8 (fun m34 => (y ≠ 0 → Q (m34 66 2) m34) ∧ (y = 0 → Q (m34 66 1) m34))) ∧ (1 < y → Q (-1) m8))))))) : V_seating X (d + 1) x y m Q := by
  unfold V_seating
  have hV : Clo (gP X.1 X.2.1) (d + 1) 135 3 false (Rq (gP X.1 X.2.1) (d + 1) 135 X.2.2.1 X.2.2.2 Q) := Rq_clo (q := mI135) rfl
  refine r_aload_n hV rfl rfl (pc' := 1) rfl ?_
  obtain ⟨v1, m1, h, hr⟩ := h
  refine tt_cv0I hV rfl rfl rfl (Wd_obj (hB _ _ rfl)) (Nat.le_of_ble_eq_true rfl) (Nat.le_of_ble_eq_true rfl) rfl hr (pc' := 4) rfl ?_
  obtain ⟨g1, h⟩ := h
  refine tt_if_eq hV rfl g1 (pt := 23) (by decide) (pf := 7) rfl (fun hc => ?_) (fun hc => ?_)
  · replace h := h.1 hc
    refine tt_iconst hV rfl (pc' := 24) rfl ?_
    exact rq_ret (q := mI135) rfl rfl rfl h
  · replace h := h.2 hc
    refine r_iload_n hV rfl rfl (pc' := 8) rfl ?_
    obtain ⟨v8, m8, h, hr⟩ := h
    refine tt_cs1I hV rfl rfl rfl (Nat.le_of_ble_eq_true rfl) (Nat.le_of_ble_eq_true rfl) rfl hr (pc' := 11) rfl ?_
    obtain ⟨g2, h⟩ := h
    refine tt_if_eq hV rfl g2 (pt := 23) (by decide) (pf := 14) rfl (fun hc => ?_) (fun hc => ?_)
    · replace h := h.1 hc
      refine tt_iconst hV rfl (pc' := 24) rfl ?_
      exact rq_ret (q := mI135) rfl rfl rfl h
    · replace h := h.2 hc
      refine r_iload_n hV rfl rfl (pc' := 15) rfl ?_
      obtain ⟨g3, h⟩ := h
      refine tt_if_lt hV rfl g3 (pt := 23) (by decide) (pf := 18) rfl (fun hc => ?_) (fun hc => ?_)
      · replace h := h.1 hc
        refine tt_iconst hV rfl (pc' := 24) rfl ?_
        exact rq_ret (q := mI135) rfl rfl rfl h
      · replace h := h.2 (Int.not_lt.mp hc)
        refine r_iload_n hV rfl rfl (pc' := 19) rfl ?_
        refine tt_iconst hV rfl (pc' := 20) rfl ?_
        refine tt_icmp_le hV rfl g3 (by decide) (pt := 25) (by decide) (pf := 23) rfl (fun hc => ?_) (fun hc => ?_)
        · replace h := h.1 hc
          refine r_aload_n hV rfl rfl (pc' := 26) rfl ?_
          refine tt_getR hV (tg := 6) (ci := 11) (kf := 11) rfl rfl (by decide) (hB _ _ rfl) rfl (by decide) (pc' := 29) rfl ?_
          refine r_aload_n hV rfl rfl (pc' := 30) rfl ?_
          refine tt_getR hV (tg := 6) (ci := 11) (kf := 8) rfl rfl (by decide) (hB _ _ rfl) rfl (by decide) (pc' := 33) rfl ?_
          refine r_iload_n hV rfl rfl (pc' := 34) rfl ?_
          obtain ⟨m34, h, hr⟩ := h
          refine tt_cv2U hV rfl rfl rfl (Wd_obj (hB _ _ rfl)) (Nat.le_of_ble_eq_true rfl) (Nat.le_of_ble_eq_true rfl) rfl hr (pc' := 37) rfl ?_
          refine r_iload_n hV rfl rfl (pc' := 38) rfl ?_
          refine tt_if_ne hV rfl g3 (pt := 51) (by decide) (pf := 41) rfl (fun hc => ?_) (fun hc => ?_)
          · replace h := h.1 hc
            refine r_aload_n hV rfl rfl (pc' := 52) rfl ?_
            refine tt_getR hV (tg := 6) (ci := 11) (kf := 11) rfl rfl (by decide) (hB _ _ rfl) rfl (by decide) (pc' := 55) rfl ?_
            refine tt_getI hV (tg := 0) (ci := 6) (kf := 2) rfl rfl (by decide) (hB _ _ rfl) rfl (by decide) (pc' := 58) rfl ?_
            exact rq_ret (q := mI135) rfl rfl rfl h
          · replace h := h.2 (Decidable.not_not.mp hc)
            refine r_aload_n hV rfl rfl (pc' := 42) rfl ?_
            refine tt_getR hV (tg := 6) (ci := 11) (kf := 11) rfl rfl (by decide) (hB _ _ rfl) rfl (by decide) (pc' := 45) rfl ?_
            refine tt_getI hV (tg := 0) (ci := 6) (kf := 1) rfl rfl (by decide) (hB _ _ rfl) rfl (by decide) (pc' := 48) rfl ?_
            refine r_goto hV rfl (pc' := 58) (by decide) ?_
            exact rq_ret (q := mI135) rfl rfl rfl h
        · replace h := h.2 (Int.not_le.mp hc)
          refine tt_iconst hV rfl (pc' := 24) rfl ?_
          exact rq_ret (q := mI135) rfl rfl rfl h
theorem V_powerw {X : Cx} {d : Nat} {x : Int} {m : Mm} {Q : Int → Mm → Prop} (hB : Bsh X.2.2.1) (h : V_isMember X d x m (fun v2 m2 => (-2147483648 ≤ v2 ∧ v2 < 2147483648) ∧ (v2 = 0 → Q (-1) m2) ∧ (v2 ≠ 0 → O_turnedBy X d x m2 (fun v17 m17 => Q v17 m17)))) : V_power X (d + 1) x m Q := by
  unfold V_power
  have hV : Clo (gP X.1 X.2.1) (d + 1) 136 2 false (Rq (gP X.1 X.2.1) (d + 1) 136 X.2.2.1 X.2.2.2 Q) := Rq_clo (q := mI136) rfl
  refine r_aload_n hV rfl rfl (pc' := 1) rfl ?_
  refine r_iload_n hV rfl rfl (pc' := 2) rfl ?_
  obtain ⟨v2, m2, h, hr⟩ := h
  refine tt_cv1I hV rfl rfl rfl (Wd_obj (hB _ _ rfl)) (Nat.le_of_ble_eq_true rfl) (Nat.le_of_ble_eq_true rfl) rfl hr (pc' := 5) rfl ?_
  obtain ⟨g1, h⟩ := h
  refine tt_if_eq hV rfl g1 (pt := 23) (by decide) (pf := 8) rfl (fun hc => ?_) (fun hc => ?_)
  · replace h := h.1 hc
    refine tt_iconst hV rfl (pc' := 24) rfl ?_
    exact rq_ret (q := mI136) rfl rfl rfl h
  · replace h := h.2 hc
    refine r_aload_n hV rfl rfl (pc' := 9) rfl ?_
    refine tt_getR hV (tg := 6) (ci := 11) (kf := 11) rfl rfl (by decide) (hB _ _ rfl) rfl (by decide) (pc' := 12) rfl ?_
    refine r_aload_n hV rfl rfl (pc' := 13) rfl ?_
    refine tt_getR hV (tg := 6) (ci := 11) (kf := 8) rfl rfl (by decide) (hB _ _ rfl) rfl (by decide) (pc' := 16) rfl ?_
    refine r_iload_n hV rfl rfl (pc' := 17) rfl ?_
    obtain ⟨v17, m17, h, hr⟩ := h
    refine tt_cv2I hV rfl rfl rfl (Wd_obj (hB _ _ rfl)) (Nat.le_of_ble_eq_true rfl) (Nat.le_of_ble_eq_true rfl) rfl hr (pc' := 20) rfl ?_
    refine r_goto hV rfl (pc' := 24) (by decide) ?_
    exact rq_ret (q := mI136) rfl rfl rfl h
theorem V_gamew {X : Cx} {d : Nat} {x : Int} {y : Int} {z : Int} {u : Int} {v : Int} {m : Mm} {Q : Int → Mm → Prop} (hB : Bsh X.2.2.1) (h : V_isMember X d x m (fun v2 m2 => (-2147483648 ≤ v2 ∧ v2 < 2147483648) ∧ (v2 = 0 → Q (-1000000) m2) ∧ (v2 ≠ 0 → V_isMember X d y m2 (fun v10 m10 => (-2147483648 ≤ v10 ∧ v10 < 2147483648) ∧ (v10 = 0 → Q (-1000000) m10) ∧ (v10 ≠ 0 → (-2147483648 ≤ x ∧ x < 2147483648) ∧ (-2147483648 ≤ y ∧ y < 2147483648) ∧ (x ≠ y → (-2147483648 ≤ z ∧ z < 2147483648) ∧ (z < 0 → Q (-1000000) m10) ∧ (0 ≤ z → (2 < z → Q (-1000000) m10) ∧ (z ≤ 2 → (-2147483648 ≤ u ∧ u < 2147483648) ∧ (u < 0 → Q (-1000000) m10) ∧ (0 ≤ u → (2 < u → Q (-1000000) m10) ∧ (u ≤ 2 → (-2147483648 ≤ v ∧ v < 2147483648) ∧ (v < 0 → Q (-1000000) m10) ∧ (0 ≤ v → (v ≤ 1 → O_playAll X d x y m10 (fun m68 => O_gainOf X d v z u m68 (fun v80 m80 => Q v80 m80))) ∧ (1 < v → Q (-1000000) m10))))))) ∧ (x = y → Q (-1000000) m10)))))) : V_game X (d + 1) x y z u v m Q := by
  unfold V_game
  have hV : Clo (gP X.1 X.2.1) (d + 1) 137 6 false (Rq (gP X.1 X.2.1) (d + 1) 137 X.2.2.1 X.2.2.2 Q) := Rq_clo (q := mI137) rfl
  refine r_aload_n hV rfl rfl (pc' := 1) rfl ?_
  refine r_iload_n hV rfl rfl (pc' := 2) rfl ?_
  obtain ⟨v2, m2, h, hr⟩ := h
  refine tt_cv1I hV rfl rfl rfl (Wd_obj (hB _ _ rfl)) (Nat.le_of_ble_eq_true rfl) (Nat.le_of_ble_eq_true rfl) rfl hr (pc' := 5) rfl ?_
  obtain ⟨g1, h⟩ := h
  refine tt_if_eq hV rfl g1 (pt := 21) (by decide) (pf := 8) rfl (fun hc => ?_) (fun hc => ?_)
  · replace h := h.1 hc
    refine v_ldc hV (Int32.ofInt (-1000000)) rfl rfl rfl (pc' := 23) rfl ?_
    exact rq_ret (q := mI137) rfl rfl rfl h
  · replace h := h.2 hc
    refine r_aload_n hV rfl rfl (pc' := 9) rfl ?_
    refine r_iload_n hV rfl rfl (pc' := 10) rfl ?_
    obtain ⟨v10, m10, h, hr⟩ := h
    refine tt_cv1I hV rfl rfl rfl (Wd_obj (hB _ _ rfl)) (Nat.le_of_ble_eq_true rfl) (Nat.le_of_ble_eq_true rfl) rfl hr (pc' := 13) rfl ?_
    obtain ⟨g2, h⟩ := h
    refine tt_if_eq hV rfl g2 (pt := 21) (by decide) (pf := 16) rfl (fun hc => ?_) (fun hc => ?_)
    · replace h := h.1 hc
      refine v_ldc hV (Int32.ofInt (-1000000)) rfl rfl rfl (pc' := 23) rfl ?_
      exact rq_ret (q := mI137) rfl rfl rfl h
    · replace h := h.2 hc
      refine r_iload_n hV rfl rfl (pc' := 17) rfl ?_
      refine r_iload_n hV rfl rfl (pc' := 18) rfl ?_
      obtain ⟨g3, h⟩ := h
      obtain ⟨g4, h⟩ := h
      refine tt_icmp_ne hV rfl g3 g4 (pt := 24) (by decide) (pf := 21) rfl (fun hc => ?_) (fun hc => ?_)
      · replace h := h.1 hc
        refine r_iload_n hV rfl rfl (pc' := 25) rfl ?_
        obtain ⟨g5, h⟩ := h
        refine tt_if_lt hV rfl g5 (pt := 55) (by decide) (pf := 28) rfl (fun hc => ?_) (fun hc => ?_)
        · replace h := h.1 hc
          refine v_ldc hV (Int32.ofInt (-1000000)) rfl rfl rfl (pc' := 57) rfl ?_
          exact rq_ret (q := mI137) rfl rfl rfl h
        · replace h := h.2 (Int.not_lt.mp hc)
          refine r_iload_n hV rfl rfl (pc' := 29) rfl ?_
          refine tt_iconst hV rfl (pc' := 30) rfl ?_
          refine tt_icmp_gt hV rfl g5 (by decide) (pt := 55) (by decide) (pf := 33) rfl (fun hc => ?_) (fun hc => ?_)
          · replace h := h.1 hc
            refine v_ldc hV (Int32.ofInt (-1000000)) rfl rfl rfl (pc' := 57) rfl ?_
            exact rq_ret (q := mI137) rfl rfl rfl h
          · replace h := h.2 (Int.not_lt.mp hc)
            refine r_iload hV rfl rfl (pc' := 35) rfl ?_
            obtain ⟨g6, h⟩ := h
            refine tt_if_lt hV rfl g6 (pt := 55) (by decide) (pf := 38) rfl (fun hc => ?_) (fun hc => ?_)
            · replace h := h.1 hc
              refine v_ldc hV (Int32.ofInt (-1000000)) rfl rfl rfl (pc' := 57) rfl ?_
              exact rq_ret (q := mI137) rfl rfl rfl h
            · replace h := h.2 (Int.not_lt.mp hc)
              refine r_iload hV rfl rfl (pc' := 40) rfl ?_
              refine tt_iconst hV rfl (pc' := 41) rfl ?_
              refine tt_icmp_gt hV rfl g6 (by decide) (pt := 55) (by decide) (pf := 44) rfl (fun hc => ?_) (fun hc => ?_)
              · replace h := h.1 hc
                refine v_ldc hV (Int32.ofInt (-1000000)) rfl rfl rfl (pc' := 57) rfl ?_
                exact rq_ret (q := mI137) rfl rfl rfl h
              · replace h := h.2 (Int.not_lt.mp hc)
                refine r_iload hV rfl rfl (pc' := 46) rfl ?_
                obtain ⟨g7, h⟩ := h
                refine tt_if_lt hV rfl g7 (pt := 55) (by decide) (pf := 49) rfl (fun hc => ?_) (fun hc => ?_)
                · replace h := h.1 hc
                  refine v_ldc hV (Int32.ofInt (-1000000)) rfl rfl rfl (pc' := 57) rfl ?_
                  exact rq_ret (q := mI137) rfl rfl rfl h
                · replace h := h.2 (Int.not_lt.mp hc)
                  refine r_iload hV rfl rfl (pc' := 51) rfl ?_
                  refine tt_iconst hV rfl (pc' := 52) rfl ?_
                  refine tt_icmp_le hV rfl g7 (by decide) (pt := 58) (by decide) (pf := 55) rfl (fun hc => ?_) (fun hc => ?_)
                  · replace h := h.1 hc
                    refine r_aload_n hV rfl rfl (pc' := 59) rfl ?_
                    refine tt_getR hV (tg := 6) (ci := 11) (kf := 11) rfl rfl (by decide) (hB _ _ rfl) rfl (by decide) (pc' := 62) rfl ?_
                    refine r_aload_n hV rfl rfl (pc' := 63) rfl ?_
                    refine tt_getR hV (tg := 6) (ci := 11) (kf := 8) rfl rfl (by decide) (hB _ _ rfl) rfl (by decide) (pc' := 66) rfl ?_
                    refine r_iload_n hV rfl rfl (pc' := 67) rfl ?_
                    refine r_iload_n hV rfl rfl (pc' := 68) rfl ?_
                    obtain ⟨m68, h, hr⟩ := h
                    refine tt_cv3U hV rfl rfl rfl (Wd_obj (hB _ _ rfl)) (Nat.le_of_ble_eq_true rfl) (Nat.le_of_ble_eq_true rfl) rfl hr (pc' := 71) rfl ?_
                    refine r_aload_n hV rfl rfl (pc' := 72) rfl ?_
                    refine tt_getR hV (tg := 6) (ci := 11) (kf := 11) rfl rfl (by decide) (hB _ _ rfl) rfl (by decide) (pc' := 75) rfl ?_
                    refine r_iload hV rfl rfl (pc' := 77) rfl ?_
                    refine r_iload_n hV rfl rfl (pc' := 78) rfl ?_
                    refine r_iload hV rfl rfl (pc' := 80) rfl ?_
                    obtain ⟨v80, m80, h, hr⟩ := h
                    refine tt_cv3I hV rfl rfl rfl (Wd_obj (hB _ _ rfl)) (Nat.le_of_ble_eq_true rfl) (Nat.le_of_ble_eq_true rfl) rfl hr (pc' := 83) rfl ?_
                    exact rq_ret (q := mI137) rfl rfl rfl h
                  · replace h := h.2 (Int.not_le.mp hc)
                    refine v_ldc hV (Int32.ofInt (-1000000)) rfl rfl rfl (pc' := 57) rfl ?_
                    exact rq_ret (q := mI137) rfl rfl rfl h
      · replace h := h.2 (Decidable.not_not.mp hc)
        refine v_ldc hV (Int32.ofInt (-1000000)) rfl rfl rfl (pc' := 23) rfl ?_
        exact rq_ret (q := mI137) rfl rfl rfl h
theorem V_restsw {X : Cx} {d : Nat} {x : Int} {y : Int} {z : Int} {m : Mm} {Q : Int → Mm → Prop} (hB : Bsh X.2.2.1) (h : V_isMember X d x m (fun v2 m2 => (-2147483648 ≤ v2 ∧ v2 < 2147483648) ∧ (v2 = 0 → Q (-1) m2) ∧ (v2 ≠ 0 → V_isMember X d y m2 (fun v10 m10 => (-2147483648 ≤ v10 ∧ v10 < 2147483648) ∧ (v10 = 0 → Q (-1) m10) ∧ (v10 ≠ 0 → (-2147483648 ≤ x ∧ x < 2147483648) ∧ (-2147483648 ≤ y ∧ y < 2147483648) ∧ (x ≠ y → O_playAll X d x y m10 (fun m33 => O_listRests X d m33 (fun m40 => F_pick X d 67 z m40 (fun v51 m51 => Q v51 m51)))) ∧ (x = y → Q (-1) m10)))))) : V_rests X (d + 1) x y z m Q := by
  unfold V_rests
  have hV : Clo (gP X.1 X.2.1) (d + 1) 138 4 false (Rq (gP X.1 X.2.1) (d + 1) 138 X.2.2.1 X.2.2.2 Q) := Rq_clo (q := mI138) rfl
  refine r_aload_n hV rfl rfl (pc' := 1) rfl ?_
  refine r_iload_n hV rfl rfl (pc' := 2) rfl ?_
  obtain ⟨v2, m2, h, hr⟩ := h
  refine tt_cv1I hV rfl rfl rfl (Wd_obj (hB _ _ rfl)) (Nat.le_of_ble_eq_true rfl) (Nat.le_of_ble_eq_true rfl) rfl hr (pc' := 5) rfl ?_
  obtain ⟨g1, h⟩ := h
  refine tt_if_eq hV rfl g1 (pt := 21) (by decide) (pf := 8) rfl (fun hc => ?_) (fun hc => ?_)
  · replace h := h.1 hc
    refine tt_iconst hV rfl (pc' := 22) rfl ?_
    exact rq_ret (q := mI138) rfl rfl rfl h
  · replace h := h.2 hc
    refine r_aload_n hV rfl rfl (pc' := 9) rfl ?_
    refine r_iload_n hV rfl rfl (pc' := 10) rfl ?_
    obtain ⟨v10, m10, h, hr⟩ := h
    refine tt_cv1I hV rfl rfl rfl (Wd_obj (hB _ _ rfl)) (Nat.le_of_ble_eq_true rfl) (Nat.le_of_ble_eq_true rfl) rfl hr (pc' := 13) rfl ?_
    obtain ⟨g2, h⟩ := h
    refine tt_if_eq hV rfl g2 (pt := 21) (by decide) (pf := 16) rfl (fun hc => ?_) (fun hc => ?_)
    · replace h := h.1 hc
      refine tt_iconst hV rfl (pc' := 22) rfl ?_
      exact rq_ret (q := mI138) rfl rfl rfl h
    · replace h := h.2 hc
      refine r_iload_n hV rfl rfl (pc' := 17) rfl ?_
      refine r_iload_n hV rfl rfl (pc' := 18) rfl ?_
      obtain ⟨g3, h⟩ := h
      obtain ⟨g4, h⟩ := h
      refine tt_icmp_ne hV rfl g3 g4 (pt := 23) (by decide) (pf := 21) rfl (fun hc => ?_) (fun hc => ?_)
      · replace h := h.1 hc
        refine r_aload_n hV rfl rfl (pc' := 24) rfl ?_
        refine tt_getR hV (tg := 6) (ci := 11) (kf := 11) rfl rfl (by decide) (hB _ _ rfl) rfl (by decide) (pc' := 27) rfl ?_
        refine r_aload_n hV rfl rfl (pc' := 28) rfl ?_
        refine tt_getR hV (tg := 6) (ci := 11) (kf := 8) rfl rfl (by decide) (hB _ _ rfl) rfl (by decide) (pc' := 31) rfl ?_
        refine r_iload_n hV rfl rfl (pc' := 32) rfl ?_
        refine r_iload_n hV rfl rfl (pc' := 33) rfl ?_
        obtain ⟨m33, h, hr⟩ := h
        refine tt_cv3U hV rfl rfl rfl (Wd_obj (hB _ _ rfl)) (Nat.le_of_ble_eq_true rfl) (Nat.le_of_ble_eq_true rfl) rfl hr (pc' := 36) rfl ?_
        refine r_aload_n hV rfl rfl (pc' := 37) rfl ?_
        refine tt_getR hV (tg := 6) (ci := 11) (kf := 11) rfl rfl (by decide) (hB _ _ rfl) rfl (by decide) (pc' := 40) rfl ?_
        obtain ⟨m40, h, hr⟩ := h
        refine tt_cv0U hV rfl rfl rfl (Wd_obj (hB _ _ rfl)) (Nat.le_of_ble_eq_true rfl) (Nat.le_of_ble_eq_true rfl) rfl hr (pc' := 43) rfl ?_
        refine r_aload_n hV rfl rfl (pc' := 44) rfl ?_
        refine tt_getR hV (tg := 6) (ci := 11) (kf := 11) rfl rfl (by decide) (hB _ _ rfl) rfl (by decide) (pc' := 47) rfl ?_
        refine tt_getR hV (tg := 10) (ci := 6) (kf := 0) rfl rfl (by decide) (hB _ _ rfl) rfl (by decide) (pc' := 50) rfl ?_
        refine r_iload_n hV rfl rfl (pc' := 51) rfl ?_
        obtain ⟨v51, m51, h, hr⟩ := h
        refine tt_cv1I hV rfl rfl rfl (Wd_obj (hB _ _ rfl)) (Nat.le_of_ble_eq_true rfl) (Nat.le_of_ble_eq_true rfl) rfl hr (pc' := 54) rfl ?_
        exact rq_ret (q := mI138) rfl rfl rfl h
      · replace h := h.2 (Decidable.not_not.mp hc)
        refine tt_iconst hV rfl (pc' := 22) rfl ?_
        exact rq_ret (q := mI138) rfl rfl rfl h
theorem V_knowsw {X : Cx} {d : Nat} {x : Int} {y : Int} {m : Mm} {Q : Int → Mm → Prop} (hB : Bsh X.2.2.1) (h : V_isMember X d x m (fun v2 m2 => (-2147483648 ≤ v2 ∧ v2 < 2147483648) ∧ (v2 = 0 → Q (-1) m2) ∧ (v2 ≠ 0 → V_isBump X d y m2 (fun v10 m10 => (-2147483648 ≤ v10 ∧ v10 < 2147483648) ∧ (v10 = 0 → Q (-1) m10) ∧ (v10 ≠ 0 → T_isAboard X d 17 x m10 (fun v21 m21 => (-2147483648 ≤ v21 ∧ v21 < 2147483648) ∧ (v21 ≠ 0 → ((iA ((iSr (m21 17 5) y)) 1) ≠ 1 → ∃ c : Nat, cO c ∧ (m21 0 6 = (c : Int)) ∧ K_ofBump X d c y 0 m21 (fun v61 m61 => O_rowOfKnowing X d x v61 m61 (fun v64 m64 => Q v64 m64))) ∧ ((iA ((iSr (m21 17 5) y)) 1) = 1 → Q (-1) m21)) ∧ (v21 = 0 → Q (-1) m21))))))) : V_knows X (d + 1) x y m Q := by
  unfold V_knows
  have hV : Clo (gP X.1 X.2.1) (d + 1) 139 3 false (Rq (gP X.1 X.2.1) (d + 1) 139 X.2.2.1 X.2.2.2 Q) := Rq_clo (q := mI139) rfl
  refine r_aload_n hV rfl rfl (pc' := 1) rfl ?_
  refine r_iload_n hV rfl rfl (pc' := 2) rfl ?_
  obtain ⟨v2, m2, h, hr⟩ := h
  refine tt_cv1I hV rfl rfl rfl (Wd_obj (hB _ _ rfl)) (Nat.le_of_ble_eq_true rfl) (Nat.le_of_ble_eq_true rfl) rfl hr (pc' := 5) rfl ?_
  obtain ⟨g1, h⟩ := h
  refine tt_if_eq hV rfl g1 (pt := 27) (by decide) (pf := 8) rfl (fun hc => ?_) (fun hc => ?_)
  · replace h := h.1 hc
    refine tt_iconst hV rfl (pc' := 28) rfl ?_
    exact rq_ret (q := mI139) rfl rfl rfl h
  · replace h := h.2 hc
    refine r_aload_n hV rfl rfl (pc' := 9) rfl ?_
    refine r_iload_n hV rfl rfl (pc' := 10) rfl ?_
    obtain ⟨v10, m10, h, hr⟩ := h
    refine tt_cv1I hV rfl rfl rfl (Wd_obj (hB _ _ rfl)) (Nat.le_of_ble_eq_true rfl) (Nat.le_of_ble_eq_true rfl) rfl hr (pc' := 13) rfl ?_
    obtain ⟨g2, h⟩ := h
    refine tt_if_eq hV rfl g2 (pt := 27) (by decide) (pf := 16) rfl (fun hc => ?_) (fun hc => ?_)
    · replace h := h.1 hc
      refine tt_iconst hV rfl (pc' := 28) rfl ?_
      exact rq_ret (q := mI139) rfl rfl rfl h
    · replace h := h.2 hc
      refine r_aload_n hV rfl rfl (pc' := 17) rfl ?_
      refine tt_getR hV (tg := 6) (ci := 11) (kf := 8) rfl rfl (by decide) (hB _ _ rfl) rfl (by decide) (pc' := 20) rfl ?_
      refine r_iload_n hV rfl rfl (pc' := 21) rfl ?_
      obtain ⟨v21, m21, h, hr⟩ := h
      refine tt_cv1I hV rfl rfl rfl (Wd_obj (hB _ _ rfl)) (Nat.le_of_ble_eq_true rfl) (Nat.le_of_ble_eq_true rfl) rfl hr (pc' := 24) rfl ?_
      obtain ⟨g3, h⟩ := h
      refine tt_if_ne hV rfl g3 (pt := 29) (by decide) (pf := 27) rfl (fun hc => ?_) (fun hc => ?_)
      · replace h := h.1 hc
        refine r_aload_n hV rfl rfl (pc' := 30) rfl ?_
        refine tt_getR hV (tg := 6) (ci := 11) (kf := 8) rfl rfl (by decide) (hB _ _ rfl) rfl (by decide) (pc' := 33) rfl ?_
        refine tt_getI hV (tg := 0) (ci := 8) (kf := 5) rfl rfl (by decide) (hB _ _ rfl) rfl (by decide) (pc' := 36) rfl ?_
        refine r_iload_n hV rfl rfl (pc' := 37) rfl ?_
        refine tt_ishr hV rfl (pc' := 38) rfl ?_
        refine tt_iconst hV rfl (pc' := 39) rfl ?_
        refine tt_iand hV rfl (pc' := 40) rfl ?_
        refine tt_iconst hV rfl (pc' := 41) rfl ?_
        refine tt_icmp_ne hV rfl (i32R _) (by decide) (pt := 46) (by decide) (pf := 44) rfl (fun hc => ?_) (fun hc => ?_)
        · replace h := h.1 hc
          refine r_aload_n hV rfl rfl (pc' := 47) rfl ?_
          refine tt_getR hV (tg := 6) (ci := 11) (kf := 11) rfl rfl (by decide) (hB _ _ rfl) rfl (by decide) (pc' := 50) rfl ?_
          refine r_aload_n hV rfl rfl (pc' := 51) rfl ?_
          refine tt_getR hV (tg := 6) (ci := 11) (kf := 8) rfl rfl (by decide) (hB _ _ rfl) rfl (by decide) (pc' := 54) rfl ?_
          refine r_iload_n hV rfl rfl (pc' := 55) rfl ?_
          refine r_aload_n hV rfl rfl (pc' := 56) rfl ?_
          obtain ⟨c, hc, h⟩ := h
          have hcs := csh_of hB hc
          obtain ⟨g4, h⟩ := h
          refine tt_getP hV (tg := 0) (ci := 11) (kf := 6) rfl rfl (by decide) (hB _ _ rfl) rfl (by decide) (b := c) g4 (pc' := 59) rfl ?_
          refine r_iload_n hV rfl rfl (pc' := 60) rfl ?_
          refine tt_iconst hV rfl (pc' := 61) rfl ?_
          obtain ⟨v61, m61, h, hr⟩ := h
          refine tt_cv2I hV rfl rfl rfl (Wd_obj hcs.1) (Nat.le_of_ble_eq_true rfl) (Nat.le_of_ble_eq_true rfl) rfl hr (pc' := 64) rfl ?_
          obtain ⟨v64, m64, h, hr⟩ := h
          refine tt_cv3I hV rfl rfl rfl (Wd_obj (hB _ _ rfl)) (Nat.le_of_ble_eq_true rfl) (Nat.le_of_ble_eq_true rfl) rfl hr (pc' := 67) rfl ?_
          exact rq_ret (q := mI139) rfl rfl rfl h
        · replace h := h.2 (Decidable.not_not.mp hc)
          refine tt_iconst hV rfl (pc' := 45) rfl ?_
          exact rq_ret (q := mI139) rfl rfl rfl h
      · replace h := h.2 (Decidable.not_not.mp hc)
        refine tt_iconst hV rfl (pc' := 28) rfl ?_
        exact rq_ret (q := mI139) rfl rfl rfl h
theorem V_straww {X : Cx} {d : Nat} {x : Int} {y : Int} {m : Mm} {Q : Int → Mm → Prop} (hB : Bsh X.2.2.1) (h : V_hasCanton X d m (fun v1 m1 => (-2147483648 ≤ v1 ∧ v1 < 2147483648) ∧ (v1 = 0 → Q (-1) m1) ∧ (v1 ≠ 0 → (-2147483648 ≤ x ∧ x < 2147483648) ∧ (x < 0 → Q (-1) m1) ∧ (0 ≤ x → (x ≤ 3 → O_listStraw X d x x m1 (fun m28 => F_pick X d 67 y m28 (fun v39 m39 => Q v39 m39))) ∧ (3 < x → Q (-1) m1))))) : V_straw X (d + 1) x y m Q := by
  unfold V_straw
  have hV : Clo (gP X.1 X.2.1) (d + 1) 140 3 false (Rq (gP X.1 X.2.1) (d + 1) 140 X.2.2.1 X.2.2.2 Q) := Rq_clo (q := mI140) rfl
  refine r_aload_n hV rfl rfl (pc' := 1) rfl ?_
  obtain ⟨v1, m1, h, hr⟩ := h
  refine tt_cv0I hV rfl rfl rfl (Wd_obj (hB _ _ rfl)) (Nat.le_of_ble_eq_true rfl) (Nat.le_of_ble_eq_true rfl) rfl hr (pc' := 4) rfl ?_
  obtain ⟨g1, h⟩ := h
  refine tt_if_eq hV rfl g1 (pt := 16) (by decide) (pf := 7) rfl (fun hc => ?_) (fun hc => ?_)
  · replace h := h.1 hc
    refine tt_iconst hV rfl (pc' := 17) rfl ?_
    exact rq_ret (q := mI140) rfl rfl rfl h
  · replace h := h.2 hc
    refine r_iload_n hV rfl rfl (pc' := 8) rfl ?_
    obtain ⟨g2, h⟩ := h
    refine tt_if_lt hV rfl g2 (pt := 16) (by decide) (pf := 11) rfl (fun hc => ?_) (fun hc => ?_)
    · replace h := h.1 hc
      refine tt_iconst hV rfl (pc' := 17) rfl ?_
      exact rq_ret (q := mI140) rfl rfl rfl h
    · replace h := h.2 (Int.not_lt.mp hc)
      refine r_iload_n hV rfl rfl (pc' := 12) rfl ?_
      refine tt_iconst hV rfl (pc' := 13) rfl ?_
      refine tt_icmp_le hV rfl g2 (by decide) (pt := 18) (by decide) (pf := 16) rfl (fun hc => ?_) (fun hc => ?_)
      · replace h := h.1 hc
        refine r_aload_n hV rfl rfl (pc' := 19) rfl ?_
        refine tt_getR hV (tg := 6) (ci := 11) (kf := 11) rfl rfl (by decide) (hB _ _ rfl) rfl (by decide) (pc' := 22) rfl ?_
        refine r_aload_n hV rfl rfl (pc' := 23) rfl ?_
        refine tt_getR hV (tg := 6) (ci := 11) (kf := 8) rfl rfl (by decide) (hB _ _ rfl) rfl (by decide) (pc' := 26) rfl ?_
        refine r_iload_n hV rfl rfl (pc' := 27) rfl ?_
        refine r_iload_n hV rfl rfl (pc' := 28) rfl ?_
        obtain ⟨m28, h, hr⟩ := h
        refine tt_cv3U hV rfl rfl rfl (Wd_obj (hB _ _ rfl)) (Nat.le_of_ble_eq_true rfl) (Nat.le_of_ble_eq_true rfl) rfl hr (pc' := 31) rfl ?_
        refine r_aload_n hV rfl rfl (pc' := 32) rfl ?_
        refine tt_getR hV (tg := 6) (ci := 11) (kf := 11) rfl rfl (by decide) (hB _ _ rfl) rfl (by decide) (pc' := 35) rfl ?_
        refine tt_getR hV (tg := 10) (ci := 6) (kf := 0) rfl rfl (by decide) (hB _ _ rfl) rfl (by decide) (pc' := 38) rfl ?_
        refine r_iload_n hV rfl rfl (pc' := 39) rfl ?_
        obtain ⟨v39, m39, h, hr⟩ := h
        refine tt_cv1I hV rfl rfl rfl (Wd_obj (hB _ _ rfl)) (Nat.le_of_ble_eq_true rfl) (Nat.le_of_ble_eq_true rfl) rfl hr (pc' := 42) rfl ?_
        exact rq_ret (q := mI140) rfl rfl rfl h
      · replace h := h.2 (Int.not_le.mp hc)
        refine tt_iconst hV rfl (pc' := 17) rfl ?_
        exact rq_ret (q := mI140) rfl rfl rfl h
theorem V_fewestw {X : Cx} {d : Nat} {m : Mm} {Q : Int → Mm → Prop} (hB : Bsh X.2.2.1) (h : V_hasCanton X d m (fun v1 m1 => (-2147483648 ≤ v1 ∧ v1 < 2147483648) ∧ (v1 ≠ 0 → O_listStraw X d 0 6 m1 (fun m20 => F_ofFewestBits X d 67 m20 (fun v30 m30 => Q v30 m30))) ∧ (v1 = 0 → Q (-1) m1))) : V_fewest X (d + 1) m Q := by
  unfold V_fewest
  have hV : Clo (gP X.1 X.2.1) (d + 1) 141 1 false (Rq (gP X.1 X.2.1) (d + 1) 141 X.2.2.1 X.2.2.2 Q) := Rq_clo (q := mI141) rfl
  refine r_aload_n hV rfl rfl (pc' := 1) rfl ?_
  obtain ⟨v1, m1, h, hr⟩ := h
  refine tt_cv0I hV rfl rfl rfl (Wd_obj (hB _ _ rfl)) (Nat.le_of_ble_eq_true rfl) (Nat.le_of_ble_eq_true rfl) rfl hr (pc' := 4) rfl ?_
  obtain ⟨g1, h⟩ := h
  refine tt_if_ne hV rfl g1 (pt := 9) (by decide) (pf := 7) rfl (fun hc => ?_) (fun hc => ?_)
  · replace h := h.1 hc
    refine r_aload_n hV rfl rfl (pc' := 10) rfl ?_
    refine tt_getR hV (tg := 6) (ci := 11) (kf := 11) rfl rfl (by decide) (hB _ _ rfl) rfl (by decide) (pc' := 13) rfl ?_
    refine r_aload_n hV rfl rfl (pc' := 14) rfl ?_
    refine tt_getR hV (tg := 6) (ci := 11) (kf := 8) rfl rfl (by decide) (hB _ _ rfl) rfl (by decide) (pc' := 17) rfl ?_
    refine tt_iconst hV rfl (pc' := 18) rfl ?_
    refine tt_bipush hV rfl (by decide) (pc' := 20) rfl ?_
    obtain ⟨m20, h, hr⟩ := h
    refine tt_cv3U hV rfl rfl rfl (Wd_obj (hB _ _ rfl)) (Nat.le_of_ble_eq_true rfl) (Nat.le_of_ble_eq_true rfl) rfl hr (pc' := 23) rfl ?_
    refine r_aload_n hV rfl rfl (pc' := 24) rfl ?_
    refine tt_getR hV (tg := 6) (ci := 11) (kf := 11) rfl rfl (by decide) (hB _ _ rfl) rfl (by decide) (pc' := 27) rfl ?_
    refine tt_getR hV (tg := 10) (ci := 6) (kf := 0) rfl rfl (by decide) (hB _ _ rfl) rfl (by decide) (pc' := 30) rfl ?_
    obtain ⟨v30, m30, h, hr⟩ := h
    refine tt_cv0I hV rfl rfl rfl (Wd_obj (hB _ _ rfl)) (Nat.le_of_ble_eq_true rfl) (Nat.le_of_ble_eq_true rfl) rfl hr (pc' := 33) rfl ?_
    exact rq_ret (q := mI141) rfl rfl rfl h
  · replace h := h.2 (Decidable.not_not.mp hc)
    refine tt_iconst hV rfl (pc' := 8) rfl ?_
    exact rq_ret (q := mI141) rfl rfl rfl h
theorem V_seenw {X : Cx} {d : Nat} {x : Int} {y : Int} {z : Int} {m : Mm} {Q : Int → Mm → Prop} (hB : Bsh X.2.2.1) (h : V_hasCanton X d m (fun v1 m1 => (-2147483648 ≤ v1 ∧ v1 < 2147483648) ∧ (v1 = 0 → Q (-1) m1) ∧ (v1 ≠ 0 → (-2147483648 ≤ x ∧ x < 2147483648) ∧ (x < 1 → Q (-1) m1) ∧ (1 ≤ x → (x ≤ 20 → (-2147483648 ≤ y ∧ y < 2147483648) ∧ (y < 0 → Q (-1) m1) ∧ (0 ≤ y → ∃ c : Nat, cO c ∧ (m1 0 6 = (c : Int)) ∧ (-2147483648 ≤ (m1 (c + 1) 0) ∧ (m1 (c + 1) 0) < 2147483648) ∧ (m1 (c + 1) 0 ≤ y → Q (-1) m1) ∧ (y < m1 (c + 1) 0 → (-2147483648 ≤ (m1 73 0) ∧ (m1 73 0) < 2147483648) ∧ (m1 73 0 < 10 → U_tell X d x y z m1 (fun m58 => Q (m58 73 0) m58)) ∧ (10 ≤ m1 73 0 → Q (-1) m1)))) ∧ (20 < x → Q (-1) m1))))) : V_seen X (d + 1) x y z m Q := by
  unfold V_seen
  have hV : Clo (gP X.1 X.2.1) (d + 1) 142 4 false (Rq (gP X.1 X.2.1) (d + 1) 142 X.2.2.1 X.2.2.2 Q) := Rq_clo (q := mI142) rfl
  refine r_aload_n hV rfl rfl (pc' := 1) rfl ?_
  obtain ⟨v1, m1, h, hr⟩ := h
  refine tt_cv0I hV rfl rfl rfl (Wd_obj (hB _ _ rfl)) (Nat.le_of_ble_eq_true rfl) (Nat.le_of_ble_eq_true rfl) rfl hr (pc' := 4) rfl ?_
  obtain ⟨g1, h⟩ := h
  refine tt_if_eq hV rfl g1 (pt := 18) (by decide) (pf := 7) rfl (fun hc => ?_) (fun hc => ?_)
  · replace h := h.1 hc
    refine tt_iconst hV rfl (pc' := 19) rfl ?_
    exact rq_ret (q := mI142) rfl rfl rfl h
  · replace h := h.2 hc
    refine r_iload_n hV rfl rfl (pc' := 8) rfl ?_
    refine tt_iconst hV rfl (pc' := 9) rfl ?_
    obtain ⟨g2, h⟩ := h
    refine tt_icmp_lt hV rfl g2 (by decide) (pt := 18) (by decide) (pf := 12) rfl (fun hc => ?_) (fun hc => ?_)
    · replace h := h.1 hc
      refine tt_iconst hV rfl (pc' := 19) rfl ?_
      exact rq_ret (q := mI142) rfl rfl rfl h
    · replace h := h.2 (Int.not_lt.mp hc)
      refine r_iload_n hV rfl rfl (pc' := 13) rfl ?_
      refine tt_bipush hV rfl (by decide) (pc' := 15) rfl ?_
      refine tt_icmp_le hV rfl g2 (by decide) (pt := 20) (by decide) (pf := 18) rfl (fun hc => ?_) (fun hc => ?_)
      · replace h := h.1 hc
        refine r_iload_n hV rfl rfl (pc' := 21) rfl ?_
        obtain ⟨g3, h⟩ := h
        refine tt_if_lt hV rfl g3 (pt := 49) (by decide) (pf := 24) rfl (fun hc => ?_) (fun hc => ?_)
        · replace h := h.1 hc
          refine tt_iconst hV rfl (pc' := 50) rfl ?_
          exact rq_ret (q := mI142) rfl rfl rfl h
        · replace h := h.2 (Int.not_lt.mp hc)
          refine r_iload_n hV rfl rfl (pc' := 25) rfl ?_
          refine r_aload_n hV rfl rfl (pc' := 26) rfl ?_
          obtain ⟨c, hc, h⟩ := h
          have hcs := csh_of hB hc
          obtain ⟨g4, h⟩ := h
          refine tt_getP hV (tg := 0) (ci := 11) (kf := 6) rfl rfl (by decide) (hB _ _ rfl) rfl (by decide) (b := c) g4 (pc' := 29) rfl ?_
          refine tt_getR hV (tg := 10) (ci := 0) (kf := 0) rfl rfl (by decide) hcs.1 rfl (by decide) (pc' := 32) rfl ?_
          refine tt_iconst hV rfl (pc' := 33) rfl ?_
          refine q_iald hV rfl hcs.2.1 (Nat.le_of_ble_eq_true rfl) rfl (by decide) (pc' := 34) rfl ?_
          obtain ⟨g5, h⟩ := h
          refine tt_icmp_ge hV rfl g3 g5 (pt := 49) (by decide) (pf := 37) rfl (fun hc => ?_) (fun hc => ?_)
          · replace h := h.1 hc
            refine tt_iconst hV rfl (pc' := 50) rfl ?_
            exact rq_ret (q := mI142) rfl rfl rfl h
          · replace h := h.2 (Int.not_le.mp hc)
            refine r_aload_n hV rfl rfl (pc' := 38) rfl ?_
            refine tt_getR hV (tg := 6) (ci := 11) (kf := 12) rfl rfl (by decide) (hB _ _ rfl) rfl (by decide) (pc' := 41) rfl ?_
            refine tt_getI hV (tg := 0) (ci := 10) (kf := 0) rfl rfl (by decide) (hB _ _ rfl) rfl (by decide) (pc' := 44) rfl ?_
            refine tt_bipush hV rfl (by decide) (pc' := 46) rfl ?_
            obtain ⟨g6, h⟩ := h
            refine tt_icmp_lt hV rfl g6 (by decide) (pt := 51) (by decide) (pf := 49) rfl (fun hc => ?_) (fun hc => ?_)
            · replace h := h.1 hc
              refine r_aload_n hV rfl rfl (pc' := 52) rfl ?_
              refine tt_getR hV (tg := 6) (ci := 11) (kf := 12) rfl rfl (by decide) (hB _ _ rfl) rfl (by decide) (pc' := 55) rfl ?_
              refine r_iload_n hV rfl rfl (pc' := 56) rfl ?_
              refine r_iload_n hV rfl rfl (pc' := 57) rfl ?_
              refine r_iload_n hV rfl rfl (pc' := 58) rfl ?_
              obtain ⟨m58, h, hr⟩ := h
              refine tt_cv3U hV rfl rfl rfl (Wd_obj (hB _ _ rfl)) (Nat.le_of_ble_eq_true rfl) (Nat.le_of_ble_eq_true rfl) rfl hr (pc' := 61) rfl ?_
              refine r_aload_n hV rfl rfl (pc' := 62) rfl ?_
              refine tt_getR hV (tg := 6) (ci := 11) (kf := 12) rfl rfl (by decide) (hB _ _ rfl) rfl (by decide) (pc' := 65) rfl ?_
              refine tt_getI hV (tg := 0) (ci := 10) (kf := 0) rfl rfl (by decide) (hB _ _ rfl) rfl (by decide) (pc' := 68) rfl ?_
              exact rq_ret (q := mI142) rfl rfl rfl h
            · replace h := h.2 (Int.not_lt.mp hc)
              refine tt_iconst hV rfl (pc' := 50) rfl ?_
              exact rq_ret (q := mI142) rfl rfl rfl h
      · replace h := h.2 (Int.not_le.mp hc)
        refine tt_iconst hV rfl (pc' := 19) rfl ?_
        exact rq_ret (q := mI142) rfl rfl rfl h
theorem V_whow {X : Cx} {d : Nat} {x : Int} {y : Int} {m : Mm} {Q : Int → Mm → Prop} (hB : Bsh X.2.2.1) (h : V_hasCanton X d m (fun v1 m1 => (-2147483648 ≤ v1 ∧ v1 < 2147483648) ∧ (v1 = 0 → Q (-1) m1) ∧ (v1 ≠ 0 → (-2147483648 ≤ x ∧ x < 2147483648) ∧ (x < 1 → Q (-1) m1) ∧ (1 ≤ x → (x ≤ 5 → U_listFitting X d x m1 (fun m24 => F_pick X d 74 y m24 (fun v35 m35 => Q v35 m35))) ∧ (5 < x → Q (-1) m1))))) : V_who X (d + 1) x y m Q := by
  unfold V_who
  have hV : Clo (gP X.1 X.2.1) (d + 1) 143 3 false (Rq (gP X.1 X.2.1) (d + 1) 143 X.2.2.1 X.2.2.2 Q) := Rq_clo (q := mI143) rfl
  refine r_aload_n hV rfl rfl (pc' := 1) rfl ?_
  obtain ⟨v1, m1, h, hr⟩ := h
  refine tt_cv0I hV rfl rfl rfl (Wd_obj (hB _ _ rfl)) (Nat.le_of_ble_eq_true rfl) (Nat.le_of_ble_eq_true rfl) rfl hr (pc' := 4) rfl ?_
  obtain ⟨g1, h⟩ := h
  refine tt_if_eq hV rfl g1 (pt := 17) (by decide) (pf := 7) rfl (fun hc => ?_) (fun hc => ?_)
  · replace h := h.1 hc
    refine tt_iconst hV rfl (pc' := 18) rfl ?_
    exact rq_ret (q := mI143) rfl rfl rfl h
  · replace h := h.2 hc
    refine r_iload_n hV rfl rfl (pc' := 8) rfl ?_
    refine tt_iconst hV rfl (pc' := 9) rfl ?_
    obtain ⟨g2, h⟩ := h
    refine tt_icmp_lt hV rfl g2 (by decide) (pt := 17) (by decide) (pf := 12) rfl (fun hc => ?_) (fun hc => ?_)
    · replace h := h.1 hc
      refine tt_iconst hV rfl (pc' := 18) rfl ?_
      exact rq_ret (q := mI143) rfl rfl rfl h
    · replace h := h.2 (Int.not_lt.mp hc)
      refine r_iload_n hV rfl rfl (pc' := 13) rfl ?_
      refine tt_iconst hV rfl (pc' := 14) rfl ?_
      refine tt_icmp_le hV rfl g2 (by decide) (pt := 19) (by decide) (pf := 17) rfl (fun hc => ?_) (fun hc => ?_)
      · replace h := h.1 hc
        refine r_aload_n hV rfl rfl (pc' := 20) rfl ?_
        refine tt_getR hV (tg := 6) (ci := 11) (kf := 12) rfl rfl (by decide) (hB _ _ rfl) rfl (by decide) (pc' := 23) rfl ?_
        refine r_iload_n hV rfl rfl (pc' := 24) rfl ?_
        obtain ⟨m24, h, hr⟩ := h
        refine tt_cv1U hV rfl rfl rfl (Wd_obj (hB _ _ rfl)) (Nat.le_of_ble_eq_true rfl) (Nat.le_of_ble_eq_true rfl) rfl hr (pc' := 27) rfl ?_
        refine r_aload_n hV rfl rfl (pc' := 28) rfl ?_
        refine tt_getR hV (tg := 6) (ci := 11) (kf := 12) rfl rfl (by decide) (hB _ _ rfl) rfl (by decide) (pc' := 31) rfl ?_
        refine tt_getR hV (tg := 10) (ci := 10) (kf := 1) rfl rfl (by decide) (hB _ _ rfl) rfl (by decide) (pc' := 34) rfl ?_
        refine r_iload_n hV rfl rfl (pc' := 35) rfl ?_
        obtain ⟨v35, m35, h, hr⟩ := h
        refine tt_cv1I hV rfl rfl rfl (Wd_obj (hB _ _ rfl)) (Nat.le_of_ble_eq_true rfl) (Nat.le_of_ble_eq_true rfl) rfl hr (pc' := 38) rfl ?_
        exact rq_ret (q := mI143) rfl rfl rfl h
      · replace h := h.2 (Int.not_le.mp hc)
        refine tt_iconst hV rfl (pc' := 18) rfl ?_
        exact rq_ret (q := mI143) rfl rfl rfl h
theorem V_bestw {X : Cx} {d : Nat} {x : Int} {m : Mm} {Q : Int → Mm → Prop} (hB : Bsh X.2.2.1) (h : V_hasCanton X d m (fun v1 m1 => (-2147483648 ≤ v1 ∧ v1 < 2147483648) ∧ (v1 = 0 → Q (-1) m1) ∧ (v1 ≠ 0 → (-2147483648 ≤ x ∧ x < 2147483648) ∧ (x < 1 → Q (-1) m1) ∧ (1 ≤ x → (x ≤ 5 → U_listFitting X d x m1 (fun m24 => U_rowToLookAt X d m24 (fun v31 m31 => Q v31 m31))) ∧ (5 < x → Q (-1) m1))))) : V_best X (d + 1) x m Q := by
  unfold V_best
  have hV : Clo (gP X.1 X.2.1) (d + 1) 144 2 false (Rq (gP X.1 X.2.1) (d + 1) 144 X.2.2.1 X.2.2.2 Q) := Rq_clo (q := mI144) rfl
  refine r_aload_n hV rfl rfl (pc' := 1) rfl ?_
  obtain ⟨v1, m1, h, hr⟩ := h
  refine tt_cv0I hV rfl rfl rfl (Wd_obj (hB _ _ rfl)) (Nat.le_of_ble_eq_true rfl) (Nat.le_of_ble_eq_true rfl) rfl hr (pc' := 4) rfl ?_
  obtain ⟨g1, h⟩ := h
  refine tt_if_eq hV rfl g1 (pt := 17) (by decide) (pf := 7) rfl (fun hc => ?_) (fun hc => ?_)
  · replace h := h.1 hc
    refine tt_iconst hV rfl (pc' := 18) rfl ?_
    exact rq_ret (q := mI144) rfl rfl rfl h
  · replace h := h.2 hc
    refine r_iload_n hV rfl rfl (pc' := 8) rfl ?_
    refine tt_iconst hV rfl (pc' := 9) rfl ?_
    obtain ⟨g2, h⟩ := h
    refine tt_icmp_lt hV rfl g2 (by decide) (pt := 17) (by decide) (pf := 12) rfl (fun hc => ?_) (fun hc => ?_)
    · replace h := h.1 hc
      refine tt_iconst hV rfl (pc' := 18) rfl ?_
      exact rq_ret (q := mI144) rfl rfl rfl h
    · replace h := h.2 (Int.not_lt.mp hc)
      refine r_iload_n hV rfl rfl (pc' := 13) rfl ?_
      refine tt_iconst hV rfl (pc' := 14) rfl ?_
      refine tt_icmp_le hV rfl g2 (by decide) (pt := 19) (by decide) (pf := 17) rfl (fun hc => ?_) (fun hc => ?_)
      · replace h := h.1 hc
        refine r_aload_n hV rfl rfl (pc' := 20) rfl ?_
        refine tt_getR hV (tg := 6) (ci := 11) (kf := 12) rfl rfl (by decide) (hB _ _ rfl) rfl (by decide) (pc' := 23) rfl ?_
        refine r_iload_n hV rfl rfl (pc' := 24) rfl ?_
        obtain ⟨m24, h, hr⟩ := h
        refine tt_cv1U hV rfl rfl rfl (Wd_obj (hB _ _ rfl)) (Nat.le_of_ble_eq_true rfl) (Nat.le_of_ble_eq_true rfl) rfl hr (pc' := 27) rfl ?_
        refine r_aload_n hV rfl rfl (pc' := 28) rfl ?_
        refine tt_getR hV (tg := 6) (ci := 11) (kf := 12) rfl rfl (by decide) (hB _ _ rfl) rfl (by decide) (pc' := 31) rfl ?_
        obtain ⟨v31, m31, h, hr⟩ := h
        refine tt_cv0I hV rfl rfl rfl (Wd_obj (hB _ _ rfl)) (Nat.le_of_ble_eq_true rfl) (Nat.le_of_ble_eq_true rfl) rfl hr (pc' := 34) rfl ?_
        exact rq_ret (q := mI144) rfl rfl rfl h
      · replace h := h.2 (Int.not_le.mp hc)
        refine tt_iconst hV rfl (pc' := 18) rfl ?_
        exact rq_ret (q := mI144) rfl rfl rfl h
theorem V_oddsw {X : Cx} {d : Nat} {x : Int} {y : Int} {m : Mm} {Q : Int → Mm → Prop} (hB : Bsh X.2.2.1) (h : V_hasCanton X d m (fun v1 m1 => (-2147483648 ≤ v1 ∧ v1 < 2147483648) ∧ (v1 = 0 → Q (-1) m1) ∧ (v1 ≠ 0 → V_isSide X d x m1 (fun v8 m8 => (-2147483648 ≤ v8 ∧ v8 < 2147483648) ∧ (v8 = 0 → Q (-1) m8) ∧ (v8 ≠ 0 → (-2147483648 ≤ y ∧ y < 2147483648) ∧ (y < 0 → Q (-1) m8) ∧ (0 ≤ y → (y ≤ 100 → O_partsEnding X d x y m8 (fun v36 m36 => Q v36 m36)) ∧ (100 < y → Q (-1) m8))))))) : V_odds X (d + 1) x y m Q := by
  unfold V_odds
  have hV : Clo (gP X.1 X.2.1) (d + 1) 145 3 false (Rq (gP X.1 X.2.1) (d + 1) 145 X.2.2.1 X.2.2.2 Q) := Rq_clo (q := mI145) rfl
  refine r_aload_n hV rfl rfl (pc' := 1) rfl ?_
  obtain ⟨v1, m1, h, hr⟩ := h
  refine tt_cv0I hV rfl rfl rfl (Wd_obj (hB _ _ rfl)) (Nat.le_of_ble_eq_true rfl) (Nat.le_of_ble_eq_true rfl) rfl hr (pc' := 4) rfl ?_
  obtain ⟨g1, h⟩ := h
  refine tt_if_eq hV rfl g1 (pt := 24) (by decide) (pf := 7) rfl (fun hc => ?_) (fun hc => ?_)
  · replace h := h.1 hc
    refine tt_iconst hV rfl (pc' := 25) rfl ?_
    exact rq_ret (q := mI145) rfl rfl rfl h
  · replace h := h.2 hc
    refine r_iload_n hV rfl rfl (pc' := 8) rfl ?_
    obtain ⟨v8, m8, h, hr⟩ := h
    refine tt_cs1I hV rfl rfl rfl (Nat.le_of_ble_eq_true rfl) (Nat.le_of_ble_eq_true rfl) rfl hr (pc' := 11) rfl ?_
    obtain ⟨g2, h⟩ := h
    refine tt_if_eq hV rfl g2 (pt := 24) (by decide) (pf := 14) rfl (fun hc => ?_) (fun hc => ?_)
    · replace h := h.1 hc
      refine tt_iconst hV rfl (pc' := 25) rfl ?_
      exact rq_ret (q := mI145) rfl rfl rfl h
    · replace h := h.2 hc
      refine r_iload_n hV rfl rfl (pc' := 15) rfl ?_
      obtain ⟨g3, h⟩ := h
      refine tt_if_lt hV rfl g3 (pt := 24) (by decide) (pf := 18) rfl (fun hc => ?_) (fun hc => ?_)
      · replace h := h.1 hc
        refine tt_iconst hV rfl (pc' := 25) rfl ?_
        exact rq_ret (q := mI145) rfl rfl rfl h
      · replace h := h.2 (Int.not_lt.mp hc)
        refine r_iload_n hV rfl rfl (pc' := 19) rfl ?_
        refine tt_bipush hV rfl (by decide) (pc' := 21) rfl ?_
        refine tt_icmp_le hV rfl g3 (by decide) (pt := 26) (by decide) (pf := 24) rfl (fun hc => ?_) (fun hc => ?_)
        · replace h := h.1 hc
          refine r_aload_n hV rfl rfl (pc' := 27) rfl ?_
          refine tt_getR hV (tg := 6) (ci := 11) (kf := 11) rfl rfl (by decide) (hB _ _ rfl) rfl (by decide) (pc' := 30) rfl ?_
          refine r_aload_n hV rfl rfl (pc' := 31) rfl ?_
          refine tt_getR hV (tg := 6) (ci := 11) (kf := 8) rfl rfl (by decide) (hB _ _ rfl) rfl (by decide) (pc' := 34) rfl ?_
          refine r_iload_n hV rfl rfl (pc' := 35) rfl ?_
          refine r_iload_n hV rfl rfl (pc' := 36) rfl ?_
          obtain ⟨v36, m36, h, hr⟩ := h
          refine tt_cv3I hV rfl rfl rfl (Wd_obj (hB _ _ rfl)) (Nat.le_of_ble_eq_true rfl) (Nat.le_of_ble_eq_true rfl) rfl hr (pc' := 39) rfl ?_
          exact rq_ret (q := mI145) rfl rfl rfl h
        · replace h := h.2 (Int.not_le.mp hc)
          refine tt_iconst hV rfl (pc' := 25) rfl ?_
          exact rq_ret (q := mI145) rfl rfl rfl h
theorem V_sharesw {X : Cx} {d : Nat} {x : Int} {y : Int} {m : Mm} {Q : Int → Mm → Prop} (hB : Bsh X.2.2.1) (h : V_isMember X d x m (fun v2 m2 => (-2147483648 ≤ v2 ∧ v2 < 2147483648) ∧ (v2 = 0 → Q (-1) m2) ∧ (v2 ≠ 0 → (-2147483648 ≤ y ∧ y < 2147483648) ∧ (y < 0 → Q (-1) m2) ∧ (0 ≤ y → (y ≤ 999 → O_weightLeaning X d 0 m2 (fun v30 m30 => O_weightLeaning X d 1 m30 (fun v42 m42 => O_weightLeaning X d 2 m42 (fun v55 m55 => T_isAboard X d 17 x m55 (fun v65 m65 => (-2147483648 ≤ v65 ∧ v65 < 2147483648) ∧ (v65 = 0 → Q 0 m65) ∧ (v65 ≠ 0 → (-2147483648 ≤ (v30 + v42 + v55) ∧ (v30 + v42 + v55) < 2147483648) ∧ (v30 + v42 + v55 ≤ 0 → Q 0 m65) ∧ (0 < v30 + v42 + v55 → T_weightOf X d 17 x m65 (fun v81 m81 => (-2147483648 ≤ (v30 + v42 + v55) ∧ (v30 + v42 + v55) < 2147483648 ∧ (v30 + v42 + v55) ≠ 0) ∧ Q ((iDv ((y * v81)) (v30 + v42 + v55))) m81)))))))) ∧ (999 < y → Q (-1) m2))))) : V_shares X (d + 1) x y m Q := by
  unfold V_shares
  have hV : Clo (gP X.1 X.2.1) (d + 1) 146 4 false (Rq (gP X.1 X.2.1) (d + 1) 146 X.2.2.1 X.2.2.2 Q) := Rq_clo (q := mI146) rfl
  refine r_aload_n hV rfl rfl (pc' := 1) rfl ?_
  refine r_iload_n hV rfl rfl (pc' := 2) rfl ?_
  obtain ⟨v2, m2, h, hr⟩ := h
  refine tt_cv1I hV rfl rfl rfl (Wd_obj (hB _ _ rfl)) (Nat.le_of_ble_eq_true rfl) (Nat.le_of_ble_eq_true rfl) rfl hr (pc' := 5) rfl ?_
  obtain ⟨g1, h⟩ := h
  refine tt_if_eq hV rfl g1 (pt := 19) (by decide) (pf := 8) rfl (fun hc => ?_) (fun hc => ?_)
  · replace h := h.1 hc
    refine tt_iconst hV rfl (pc' := 20) rfl ?_
    exact rq_ret (q := mI146) rfl rfl rfl h
  · replace h := h.2 hc
    refine r_iload_n hV rfl rfl (pc' := 9) rfl ?_
    obtain ⟨g2, h⟩ := h
    refine tt_if_lt hV rfl g2 (pt := 19) (by decide) (pf := 12) rfl (fun hc => ?_) (fun hc => ?_)
    · replace h := h.1 hc
      refine tt_iconst hV rfl (pc' := 20) rfl ?_
      exact rq_ret (q := mI146) rfl rfl rfl h
    · replace h := h.2 (Int.not_lt.mp hc)
      refine r_iload_n hV rfl rfl (pc' := 13) rfl ?_
      refine tt_sipush hV rfl (by decide) (pc' := 16) rfl ?_
      refine tt_icmp_le hV rfl g2 (by decide) (pt := 21) (by decide) (pf := 19) rfl (fun hc => ?_) (fun hc => ?_)
      · replace h := h.1 hc
        refine r_aload_n hV rfl rfl (pc' := 22) rfl ?_
        refine tt_getR hV (tg := 6) (ci := 11) (kf := 11) rfl rfl (by decide) (hB _ _ rfl) rfl (by decide) (pc' := 25) rfl ?_
        refine r_aload_n hV rfl rfl (pc' := 26) rfl ?_
        refine tt_getR hV (tg := 6) (ci := 11) (kf := 8) rfl rfl (by decide) (hB _ _ rfl) rfl (by decide) (pc' := 29) rfl ?_
        refine tt_iconst hV rfl (pc' := 30) rfl ?_
        obtain ⟨v30, m30, h, hr⟩ := h
        refine tt_cv2I hV rfl rfl rfl (Wd_obj (hB _ _ rfl)) (Nat.le_of_ble_eq_true rfl) (Nat.le_of_ble_eq_true rfl) rfl hr (pc' := 33) rfl ?_
        refine r_aload_n hV rfl rfl (pc' := 34) rfl ?_
        refine tt_getR hV (tg := 6) (ci := 11) (kf := 11) rfl rfl (by decide) (hB _ _ rfl) rfl (by decide) (pc' := 37) rfl ?_
        refine r_aload_n hV rfl rfl (pc' := 38) rfl ?_
        refine tt_getR hV (tg := 6) (ci := 11) (kf := 8) rfl rfl (by decide) (hB _ _ rfl) rfl (by decide) (pc' := 41) rfl ?_
        refine tt_iconst hV rfl (pc' := 42) rfl ?_
        obtain ⟨v42, m42, h, hr⟩ := h
        refine tt_cv2I hV rfl rfl rfl (Wd_obj (hB _ _ rfl)) (Nat.le_of_ble_eq_true rfl) (Nat.le_of_ble_eq_true rfl) rfl hr (pc' := 45) rfl ?_
        refine tt_iadd hV rfl (pc' := 46) rfl ?_
        refine r_aload_n hV rfl rfl (pc' := 47) rfl ?_
        refine tt_getR hV (tg := 6) (ci := 11) (kf := 11) rfl rfl (by decide) (hB _ _ rfl) rfl (by decide) (pc' := 50) rfl ?_
        refine r_aload_n hV rfl rfl (pc' := 51) rfl ?_
        refine tt_getR hV (tg := 6) (ci := 11) (kf := 8) rfl rfl (by decide) (hB _ _ rfl) rfl (by decide) (pc' := 54) rfl ?_
        refine tt_iconst hV rfl (pc' := 55) rfl ?_
        obtain ⟨v55, m55, h, hr⟩ := h
        refine tt_cv2I hV rfl rfl rfl (Wd_obj (hB _ _ rfl)) (Nat.le_of_ble_eq_true rfl) (Nat.le_of_ble_eq_true rfl) rfl hr (pc' := 58) rfl ?_
        refine tt_iadd hV rfl (pc' := 59) rfl ?_
        refine tt_istore3 hV rfl rfl (pc' := 60) rfl ?_
        refine r_aload_n hV rfl rfl (pc' := 61) rfl ?_
        refine tt_getR hV (tg := 6) (ci := 11) (kf := 8) rfl rfl (by decide) (hB _ _ rfl) rfl (by decide) (pc' := 64) rfl ?_
        refine r_iload_n hV rfl rfl (pc' := 65) rfl ?_
        obtain ⟨v65, m65, h, hr⟩ := h
        refine tt_cv1I hV rfl rfl rfl (Wd_obj (hB _ _ rfl)) (Nat.le_of_ble_eq_true rfl) (Nat.le_of_ble_eq_true rfl) rfl hr (pc' := 68) rfl ?_
        obtain ⟨g3, h⟩ := h
        refine tt_if_eq hV rfl g3 (pt := 90) (by decide) (pf := 71) rfl (fun hc => ?_) (fun hc => ?_)
        · replace h := h.1 hc
          refine tt_iconst hV rfl (pc' := 91) rfl ?_
          exact rq_ret (q := mI146) rfl rfl rfl h
        · replace h := h.2 hc
          refine r_iload_n hV rfl rfl (pc' := 72) rfl ?_
          obtain ⟨g4, h⟩ := h
          refine tt_if_le hV rfl g4 (pt := 90) (by decide) (pf := 75) rfl (fun hc => ?_) (fun hc => ?_)
          · replace h := h.1 hc
            refine tt_iconst hV rfl (pc' := 91) rfl ?_
            exact rq_ret (q := mI146) rfl rfl rfl h
          · replace h := h.2 (Int.not_le.mp hc)
            refine r_iload_n hV rfl rfl (pc' := 76) rfl ?_
            refine r_aload_n hV rfl rfl (pc' := 77) rfl ?_
            refine tt_getR hV (tg := 6) (ci := 11) (kf := 8) rfl rfl (by decide) (hB _ _ rfl) rfl (by decide) (pc' := 80) rfl ?_
            refine r_iload_n hV rfl rfl (pc' := 81) rfl ?_
            obtain ⟨v81, m81, h, hr⟩ := h
            refine tt_cv1I hV rfl rfl rfl (Wd_obj (hB _ _ rfl)) (Nat.le_of_ble_eq_true rfl) (Nat.le_of_ble_eq_true rfl) rfl hr (pc' := 84) rfl ?_
            refine tt_imul hV rfl (pc' := 85) rfl ?_
            refine vtI (y := (y * v81)) (by clear h; omega) ?_
            refine r_iload_n hV rfl rfl (pc' := 86) rfl ?_
            obtain ⟨g5, h⟩ := h
            refine tt_idiv hV rfl g5 (pc' := 87) rfl ?_
            refine r_goto hV rfl (pc' := 91) (by decide) ?_
            exact rq_ret (q := mI146) rfl rfl rfl h
      · replace h := h.2 (Int.not_le.mp hc)
        refine tt_iconst hV rfl (pc' := 20) rfl ?_
        exact rq_ret (q := mI146) rfl rfl rfl h
theorem V_mostw {X : Cx} {d : Nat} {x : Int} {m : Mm} {Q : Int → Mm → Prop} (hB : Bsh X.2.2.1) (h : V_hasCanton X d m (fun v1 m1 => (-2147483648 ≤ v1 ∧ v1 < 2147483648) ∧ (v1 ≠ 0 → (-2147483648 ≤ x ∧ x < 2147483648) ∧ (x = 0 → O_heaviest X d m1 (fun v44 m44 => Q v44 m44)) ∧ (x = 1 → O_moderates X d m1 (fun v56 m56 => Q v56 m56)) ∧ (x = 2 → O_weightLeaning X d 2 m1 (fun v70 m70 => O_weightLeaning X d 0 m70 (fun v82 m82 => J_compare X d v70 v82 m82 (fun v85 m85 => Q (v85 + 1) m85)))) ∧ (x ≠ 0 ∧ x ≠ 1 ∧ x ≠ 2 → Q (-1) m1)) ∧ (v1 = 0 → Q (-1) m1))) : V_most X (d + 1) x m Q := by
  unfold V_most
  have hV : Clo (gP X.1 X.2.1) (d + 1) 147 2 false (Rq (gP X.1 X.2.1) (d + 1) 147 X.2.2.1 X.2.2.2 Q) := Rq_clo (q := mI147) rfl
  refine r_aload_n hV rfl rfl (pc' := 1) rfl ?_
  obtain ⟨v1, m1, h, hr⟩ := h
  refine tt_cv0I hV rfl rfl rfl (Wd_obj (hB _ _ rfl)) (Nat.le_of_ble_eq_true rfl) (Nat.le_of_ble_eq_true rfl) rfl hr (pc' := 4) rfl ?_
  obtain ⟨g1, h⟩ := h
  refine tt_if_ne hV rfl g1 (pt := 9) (by decide) (pf := 7) rfl (fun hc => ?_) (fun hc => ?_)
  · replace h := h.1 hc
    refine r_iload_n hV rfl rfl (pc' := 10) rfl ?_
    obtain ⟨g2, h⟩ := h
    by_cases hc : x = 0
    · replace h := h.1 hc
      refine r_sw hV (pc' := 36) rfl (by decide) (by rw [hc]; rfl) ?_
      refine r_aload_n hV rfl rfl (pc' := 37) rfl ?_
      refine tt_getR hV (tg := 6) (ci := 11) (kf := 11) rfl rfl (by decide) (hB _ _ rfl) rfl (by decide) (pc' := 40) rfl ?_
      refine r_aload_n hV rfl rfl (pc' := 41) rfl ?_
      refine tt_getR hV (tg := 6) (ci := 11) (kf := 8) rfl rfl (by decide) (hB _ _ rfl) rfl (by decide) (pc' := 44) rfl ?_
      obtain ⟨v44, m44, h, hr⟩ := h
      refine tt_cv1I hV rfl rfl rfl (Wd_obj (hB _ _ rfl)) (Nat.le_of_ble_eq_true rfl) (Nat.le_of_ble_eq_true rfl) rfl hr (pc' := 47) rfl ?_
      exact rq_ret (q := mI147) rfl rfl rfl h
    have hc3_0 := hc
    clear hc
    by_cases hc : x = 1
    · replace h := h.2.1 hc
      refine r_sw hV (pc' := 48) rfl (by decide) (by rw [hc]; rfl) ?_
      refine r_aload_n hV rfl rfl (pc' := 49) rfl ?_
      refine tt_getR hV (tg := 6) (ci := 11) (kf := 11) rfl rfl (by decide) (hB _ _ rfl) rfl (by decide) (pc' := 52) rfl ?_
      refine r_aload_n hV rfl rfl (pc' := 53) rfl ?_
      refine tt_getR hV (tg := 6) (ci := 11) (kf := 8) rfl rfl (by decide) (hB _ _ rfl) rfl (by decide) (pc' := 56) rfl ?_
      obtain ⟨v56, m56, h, hr⟩ := h
      refine tt_cv1I hV rfl rfl rfl (Wd_obj (hB _ _ rfl)) (Nat.le_of_ble_eq_true rfl) (Nat.le_of_ble_eq_true rfl) rfl hr (pc' := 59) rfl ?_
      exact rq_ret (q := mI147) rfl rfl rfl h
    have hc3_1 := hc
    clear hc
    by_cases hc : x = 2
    · replace h := h.2.2.1 hc
      refine r_sw hV (pc' := 60) rfl (by decide) (by rw [hc]; rfl) ?_
      refine tt_iconst hV rfl (pc' := 61) rfl ?_
      refine r_aload_n hV rfl rfl (pc' := 62) rfl ?_
      refine tt_getR hV (tg := 6) (ci := 11) (kf := 11) rfl rfl (by decide) (hB _ _ rfl) rfl (by decide) (pc' := 65) rfl ?_
      refine r_aload_n hV rfl rfl (pc' := 66) rfl ?_
      refine tt_getR hV (tg := 6) (ci := 11) (kf := 8) rfl rfl (by decide) (hB _ _ rfl) rfl (by decide) (pc' := 69) rfl ?_
      refine tt_iconst hV rfl (pc' := 70) rfl ?_
      obtain ⟨v70, m70, h, hr⟩ := h
      refine tt_cv2I hV rfl rfl rfl (Wd_obj (hB _ _ rfl)) (Nat.le_of_ble_eq_true rfl) (Nat.le_of_ble_eq_true rfl) rfl hr (pc' := 73) rfl ?_
      refine r_aload_n hV rfl rfl (pc' := 74) rfl ?_
      refine tt_getR hV (tg := 6) (ci := 11) (kf := 11) rfl rfl (by decide) (hB _ _ rfl) rfl (by decide) (pc' := 77) rfl ?_
      refine r_aload_n hV rfl rfl (pc' := 78) rfl ?_
      refine tt_getR hV (tg := 6) (ci := 11) (kf := 8) rfl rfl (by decide) (hB _ _ rfl) rfl (by decide) (pc' := 81) rfl ?_
      refine tt_iconst hV rfl (pc' := 82) rfl ?_
      obtain ⟨v82, m82, h, hr⟩ := h
      refine tt_cv2I hV rfl rfl rfl (Wd_obj (hB _ _ rfl)) (Nat.le_of_ble_eq_true rfl) (Nat.le_of_ble_eq_true rfl) rfl hr (pc' := 85) rfl ?_
      obtain ⟨v85, m85, h, hr⟩ := h
      refine tt_cs2I hV rfl rfl rfl (Nat.le_of_ble_eq_true rfl) (Nat.le_of_ble_eq_true rfl) rfl hr (pc' := 88) rfl ?_
      refine tt_iadd hV rfl (pc' := 89) rfl ?_
      refine vtI (y := v85 + 1) (by clear h; omega) ?_
      exact rq_ret (q := mI147) rfl rfl rfl h
    have hc3_2 := hc
    clear hc
    replace h := h.2.2.2 ⟨hc3_0, hc3_1, hc3_2⟩
    refine r_sw hV (pc' := 90) rfl (by decide) ?_ ?_
    · exact sw_tab g2 (by clear h; omega) (by decide)
    refine tt_iconst hV rfl (pc' := 91) rfl ?_
    exact rq_ret (q := mI147) rfl rfl rfl h
  · replace h := h.2 (Decidable.not_not.mp hc)
    refine tt_iconst hV rfl (pc' := 8) rfl ?_
    exact rq_ret (q := mI147) rfl rfl rfl h
theorem V_staysw {X : Cx} {d : Nat} {x : Int} {m : Mm} {Q : Int → Mm → Prop} (hB : Bsh X.2.2.1) (h : V_isMember X d x m (fun v2 m2 => (-2147483648 ≤ v2 ∧ v2 < 2147483648) ∧ (v2 = 0 → Q (-1) m2) ∧ (v2 ≠ 0 → T_isAboard X d 17 x m2 (fun v13 m13 => (-2147483648 ≤ v13 ∧ v13 < 2147483648) ∧ (v13 = 0 → Q (-1) m13) ∧ (v13 ≠ 0 → O_heelsToStay X d x m13 (fun v28 m28 => Q v28 m28)))))) : V_stays X (d + 1) x m Q := by
  unfold V_stays
  have hV : Clo (gP X.1 X.2.1) (d + 1) 148 2 false (Rq (gP X.1 X.2.1) (d + 1) 148 X.2.2.1 X.2.2.2 Q) := Rq_clo (q := mI148) rfl
  refine r_aload_n hV rfl rfl (pc' := 1) rfl ?_
  refine r_iload_n hV rfl rfl (pc' := 2) rfl ?_
  obtain ⟨v2, m2, h, hr⟩ := h
  refine tt_cv1I hV rfl rfl rfl (Wd_obj (hB _ _ rfl)) (Nat.le_of_ble_eq_true rfl) (Nat.le_of_ble_eq_true rfl) rfl hr (pc' := 5) rfl ?_
  obtain ⟨g1, h⟩ := h
  refine tt_if_eq hV rfl g1 (pt := 34) (by decide) (pf := 8) rfl (fun hc => ?_) (fun hc => ?_)
  · replace h := h.1 hc
    refine tt_iconst hV rfl (pc' := 35) rfl ?_
    exact rq_ret (q := mI148) rfl rfl rfl h
  · replace h := h.2 hc
    refine r_aload_n hV rfl rfl (pc' := 9) rfl ?_
    refine tt_getR hV (tg := 6) (ci := 11) (kf := 8) rfl rfl (by decide) (hB _ _ rfl) rfl (by decide) (pc' := 12) rfl ?_
    refine r_iload_n hV rfl rfl (pc' := 13) rfl ?_
    obtain ⟨v13, m13, h, hr⟩ := h
    refine tt_cv1I hV rfl rfl rfl (Wd_obj (hB _ _ rfl)) (Nat.le_of_ble_eq_true rfl) (Nat.le_of_ble_eq_true rfl) rfl hr (pc' := 16) rfl ?_
    obtain ⟨g2, h⟩ := h
    refine tt_if_eq hV rfl g2 (pt := 34) (by decide) (pf := 19) rfl (fun hc => ?_) (fun hc => ?_)
    · replace h := h.1 hc
      refine tt_iconst hV rfl (pc' := 35) rfl ?_
      exact rq_ret (q := mI148) rfl rfl rfl h
    · replace h := h.2 hc
      refine r_aload_n hV rfl rfl (pc' := 20) rfl ?_
      refine tt_getR hV (tg := 6) (ci := 11) (kf := 11) rfl rfl (by decide) (hB _ _ rfl) rfl (by decide) (pc' := 23) rfl ?_
      refine r_aload_n hV rfl rfl (pc' := 24) rfl ?_
      refine tt_getR hV (tg := 6) (ci := 11) (kf := 8) rfl rfl (by decide) (hB _ _ rfl) rfl (by decide) (pc' := 27) rfl ?_
      refine r_iload_n hV rfl rfl (pc' := 28) rfl ?_
      obtain ⟨v28, m28, h, hr⟩ := h
      refine tt_cv2I hV rfl rfl rfl (Wd_obj (hB _ _ rfl)) (Nat.le_of_ble_eq_true rfl) (Nat.le_of_ble_eq_true rfl) rfl hr (pc' := 31) rfl ?_
      refine r_goto hV rfl (pc' := 35) (by decide) ?_
      exact rq_ret (q := mI148) rfl rfl rfl h
theorem V_metw {X : Cx} {d : Nat} {m : Mm} {Q : Int → Mm → Prop} (hB : Bsh X.2.2.1) (h : V_hasCanton X d m (fun v1 m1 => (-2147483648 ≤ v1 ∧ v1 < 2147483648) ∧ (v1 = 0 → Q (-1) m1) ∧ (v1 ≠ 0 → O_bumpsAhead X d m1 (fun v15 m15 => Q v15 m15)))) : V_met X (d + 1) m Q := by
  unfold V_met
  have hV : Clo (gP X.1 X.2.1) (d + 1) 149 1 false (Rq (gP X.1 X.2.1) (d + 1) 149 X.2.2.1 X.2.2.2 Q) := Rq_clo (q := mI149) rfl
  refine r_aload_n hV rfl rfl (pc' := 1) rfl ?_
  obtain ⟨v1, m1, h, hr⟩ := h
  refine tt_cv0I hV rfl rfl rfl (Wd_obj (hB _ _ rfl)) (Nat.le_of_ble_eq_true rfl) (Nat.le_of_ble_eq_true rfl) rfl hr (pc' := 4) rfl ?_
  obtain ⟨g1, h⟩ := h
  refine tt_if_eq hV rfl g1 (pt := 21) (by decide) (pf := 7) rfl (fun hc => ?_) (fun hc => ?_)
  · replace h := h.1 hc
    refine tt_iconst hV rfl (pc' := 22) rfl ?_
    exact rq_ret (q := mI149) rfl rfl rfl h
  · replace h := h.2 hc
    refine r_aload_n hV rfl rfl (pc' := 8) rfl ?_
    refine tt_getR hV (tg := 6) (ci := 11) (kf := 11) rfl rfl (by decide) (hB _ _ rfl) rfl (by decide) (pc' := 11) rfl ?_
    refine r_aload_n hV rfl rfl (pc' := 12) rfl ?_
    refine tt_getR hV (tg := 6) (ci := 11) (kf := 8) rfl rfl (by decide) (hB _ _ rfl) rfl (by decide) (pc' := 15) rfl ?_
    obtain ⟨v15, m15, h, hr⟩ := h
    refine tt_cv1I hV rfl rfl rfl (Wd_obj (hB _ _ rfl)) (Nat.le_of_ble_eq_true rfl) (Nat.le_of_ble_eq_true rfl) rfl hr (pc' := 18) rfl ?_
    refine r_goto hV rfl (pc' := 22) (by decide) ?_
    exact rq_ret (q := mI149) rfl rfl rfl h
theorem V_imagew {X : Cx} {d : Nat} {m : Mm} {Q : Int → Mm → Prop} (hB : Bsh X.2.2.1) (h : V_hasCanton X d m (fun v1 m1 => (-2147483648 ≤ v1 ∧ v1 < 2147483648) ∧ (v1 ≠ 0 → H_keepImage X d m1 (fun m17 => Q (m17 17 7) m17)) ∧ (v1 = 0 → Q (-1) m1))) : V_image X (d + 1) m Q := by
  unfold V_image
  have hV : Clo (gP X.1 X.2.1) (d + 1) 150 1 false (Rq (gP X.1 X.2.1) (d + 1) 150 X.2.2.1 X.2.2.2 Q) := Rq_clo (q := mI150) rfl
  refine r_aload_n hV rfl rfl (pc' := 1) rfl ?_
  obtain ⟨v1, m1, h, hr⟩ := h
  refine tt_cv0I hV rfl rfl rfl (Wd_obj (hB _ _ rfl)) (Nat.le_of_ble_eq_true rfl) (Nat.le_of_ble_eq_true rfl) rfl hr (pc' := 4) rfl ?_
  obtain ⟨g1, h⟩ := h
  refine tt_if_ne hV rfl g1 (pt := 9) (by decide) (pf := 7) rfl (fun hc => ?_) (fun hc => ?_)
  · replace h := h.1 hc
    refine r_aload_n hV rfl rfl (pc' := 10) rfl ?_
    refine tt_getR hV (tg := 6) (ci := 11) (kf := 10) rfl rfl (by decide) (hB _ _ rfl) rfl (by decide) (pc' := 13) rfl ?_
    refine r_aload_n hV rfl rfl (pc' := 14) rfl ?_
    refine tt_getR hV (tg := 6) (ci := 11) (kf := 8) rfl rfl (by decide) (hB _ _ rfl) rfl (by decide) (pc' := 17) rfl ?_
    obtain ⟨m17, h, hr⟩ := h
    refine tt_cv1U hV rfl rfl rfl (Wd_obj (hB _ _ rfl)) (Nat.le_of_ble_eq_true rfl) (Nat.le_of_ble_eq_true rfl) rfl hr (pc' := 20) rfl ?_
    refine r_aload_n hV rfl rfl (pc' := 21) rfl ?_
    refine tt_getR hV (tg := 6) (ci := 11) (kf := 8) rfl rfl (by decide) (hB _ _ rfl) rfl (by decide) (pc' := 24) rfl ?_
    refine tt_getI hV (tg := 0) (ci := 8) (kf := 7) rfl rfl (by decide) (hB _ _ rfl) rfl (by decide) (pc' := 27) rfl ?_
    exact rq_ret (q := mI150) rfl rfl rfl h
  · replace h := h.2 (Decidable.not_not.mp hc)
    refine tt_iconst hV rfl (pc' := 8) rfl ?_
    exact rq_ret (q := mI150) rfl rfl rfl h
theorem V_backw {X : Cx} {d : Nat} {m : Mm} {Q : Int → Mm → Prop} (hB : Bsh X.2.2.1) (h : (-2147483648 ≤ (m 21 1) ∧ (m 21 1) < 2147483648) ∧ (m 21 1 ≠ 0 → H_giveImageBack X d m (fun m20 => Q (m20 17 7) m20)) ∧ (m 21 1 = 0 → Q (-1) m)) : V_back X (d + 1) m Q := by
  unfold V_back
  have hV : Clo (gP X.1 X.2.1) (d + 1) 151 1 false (Rq (gP X.1 X.2.1) (d + 1) 151 X.2.2.1 X.2.2.2 Q) := Rq_clo (q := mI151) rfl
  refine r_aload_n hV rfl rfl (pc' := 1) rfl ?_
  refine tt_getR hV (tg := 6) (ci := 11) (kf := 10) rfl rfl (by decide) (hB _ _ rfl) rfl (by decide) (pc' := 4) rfl ?_
  refine tt_getI hV (tg := 0) (ci := 3) (kf := 1) rfl rfl (by decide) (hB _ _ rfl) rfl (by decide) (pc' := 7) rfl ?_
  obtain ⟨g1, h⟩ := h
  refine tt_if_ne hV rfl g1 (pt := 12) (by decide) (pf := 10) rfl (fun hc => ?_) (fun hc => ?_)
  · replace h := h.1 hc
    refine r_aload_n hV rfl rfl (pc' := 13) rfl ?_
    refine tt_getR hV (tg := 6) (ci := 11) (kf := 10) rfl rfl (by decide) (hB _ _ rfl) rfl (by decide) (pc' := 16) rfl ?_
    refine r_aload_n hV rfl rfl (pc' := 17) rfl ?_
    refine tt_getR hV (tg := 6) (ci := 11) (kf := 8) rfl rfl (by decide) (hB _ _ rfl) rfl (by decide) (pc' := 20) rfl ?_
    obtain ⟨m20, h, hr⟩ := h
    refine tt_cv1U hV rfl rfl rfl (Wd_obj (hB _ _ rfl)) (Nat.le_of_ble_eq_true rfl) (Nat.le_of_ble_eq_true rfl) rfl hr (pc' := 23) rfl ?_
    refine r_aload_n hV rfl rfl (pc' := 24) rfl ?_
    refine tt_getR hV (tg := 6) (ci := 11) (kf := 8) rfl rfl (by decide) (hB _ _ rfl) rfl (by decide) (pc' := 27) rfl ?_
    refine tt_getI hV (tg := 0) (ci := 8) (kf := 7) rfl rfl (by decide) (hB _ _ rfl) rfl (by decide) (pc' := 30) rfl ?_
    exact rq_ret (q := mI151) rfl rfl rfl h
  · replace h := h.2 (Decidable.not_not.mp hc)
    refine tt_iconst hV rfl (pc' := 11) rfl ?_
    exact rq_ret (q := mI151) rfl rfl rfl h
theorem V_countw {X : Cx} {d : Nat} {x : Int} {m : Mm} {Q : Int → Mm → Prop} (hB : Bsh X.2.2.1) (h : (-2147483648 ≤ x ∧ x < 2147483648) ∧ (x = 0 → ∃ c : Nat, cO c ∧ (m 0 6 = (c : Int)) ∧ Q (m c 4) m) ∧ (x = 1 → ∃ c : Nat, cO c ∧ (m 0 6 = (c : Int)) ∧ Q (m c 3) m) ∧ (x = 2 → Q (m 0 4) m) ∧ (x = 3 → Q (m 1 1) m) ∧ (x = 4 → Q (m 0 5) m) ∧ (x = 5 → Q (m 17 7) m) ∧ (x = 6 → Q (m 17 8) m) ∧ (x = 7 → Q (m 17 4) m) ∧ (x = 8 → Q (m 17 9) m) ∧ (x = 9 → Q (m 0 14) m) ∧ (x = 10 → Q (m 73 0) m) ∧ (x = 11 → ∃ c : Nat, cO c ∧ (m 0 6 = (c : Int)) ∧ Q (m c 5) m) ∧ (x = 12 → H_lengthOfLog X d m (fun v167 m167 => Q v167 m167)) ∧ (x = 13 → Q (m 21 0) m) ∧ (x ≠ 0 ∧ x ≠ 1 ∧ x ≠ 2 ∧ x ≠ 3 ∧ x ≠ 4 ∧ x ≠ 5 ∧ x ≠ 6 ∧ x ≠ 7 ∧ x ≠ 8 ∧ x ≠ 9 ∧ x ≠ 10 ∧ x ≠ 11 ∧ x ≠ 12 ∧ x ≠ 13 → Q (-1000000) m)) : V_count X (d + 1) x m Q := by
  unfold V_count
  have hV : Clo (gP X.1 X.2.1) (d + 1) 152 2 false (Rq (gP X.1 X.2.1) (d + 1) 152 X.2.2.1 X.2.2.2 Q) := Rq_clo (q := mI152) rfl
  refine r_iload_n hV rfl rfl (pc' := 1) rfl ?_
  obtain ⟨g1, h⟩ := h
  by_cases hc : x = 0
  · replace h := h.1 hc
    refine r_sw hV (pc' := 72) rfl (by decide) (by rw [hc]; rfl) ?_
    refine r_aload_n hV rfl rfl (pc' := 73) rfl ?_
    obtain ⟨c, hc, h⟩ := h
    have hcs := csh_of hB hc
    obtain ⟨g3, h⟩ := h
    refine tt_getP hV (tg := 0) (ci := 11) (kf := 6) rfl rfl (by decide) (hB _ _ rfl) rfl (by decide) (b := c) g3 (pc' := 76) rfl ?_
    refine tt_getI hV (tg := 0) (ci := 0) (kf := 4) rfl rfl (by decide) hcs.1 rfl (by decide) (pc' := 79) rfl ?_
    exact rq_ret (q := mI152) rfl rfl rfl h
  have hc2_0 := hc
  clear hc
  by_cases hc : x = 1
  · replace h := h.2.1 hc
    refine r_sw hV (pc' := 80) rfl (by decide) (by rw [hc]; rfl) ?_
    refine r_aload_n hV rfl rfl (pc' := 81) rfl ?_
    obtain ⟨c, hc, h⟩ := h
    have hcs := csh_of hB hc
    obtain ⟨g4, h⟩ := h
    refine tt_getP hV (tg := 0) (ci := 11) (kf := 6) rfl rfl (by decide) (hB _ _ rfl) rfl (by decide) (b := c) g4 (pc' := 84) rfl ?_
    refine tt_getI hV (tg := 0) (ci := 0) (kf := 3) rfl rfl (by decide) hcs.1 rfl (by decide) (pc' := 87) rfl ?_
    exact rq_ret (q := mI152) rfl rfl rfl h
  have hc2_1 := hc
  clear hc
  by_cases hc : x = 2
  · replace h := h.2.2.1 hc
    refine r_sw hV (pc' := 88) rfl (by decide) (by rw [hc]; rfl) ?_
    refine r_aload_n hV rfl rfl (pc' := 89) rfl ?_
    refine tt_getI hV (tg := 0) (ci := 11) (kf := 4) rfl rfl (by decide) (hB _ _ rfl) rfl (by decide) (pc' := 92) rfl ?_
    exact rq_ret (q := mI152) rfl rfl rfl h
  have hc2_2 := hc
  clear hc
  by_cases hc : x = 3
  · replace h := h.2.2.2.1 hc
    refine r_sw hV (pc' := 93) rfl (by decide) (by rw [hc]; rfl) ?_
    refine r_aload_n hV rfl rfl (pc' := 94) rfl ?_
    refine tt_getR hV (tg := 6) (ci := 11) (kf := 0) rfl rfl (by decide) (hB _ _ rfl) rfl (by decide) (pc' := 97) rfl ?_
    refine tt_getI hV (tg := 0) (ci := 9) (kf := 1) rfl rfl (by decide) (hB _ _ rfl) rfl (by decide) (pc' := 100) rfl ?_
    exact rq_ret (q := mI152) rfl rfl rfl h
  have hc2_3 := hc
  clear hc
  by_cases hc : x = 4
  · replace h := h.2.2.2.2.1 hc
    refine r_sw hV (pc' := 101) rfl (by decide) (by rw [hc]; rfl) ?_
    refine r_aload_n hV rfl rfl (pc' := 102) rfl ?_
    refine tt_getI hV (tg := 0) (ci := 11) (kf := 5) rfl rfl (by decide) (hB _ _ rfl) rfl (by decide) (pc' := 105) rfl ?_
    exact rq_ret (q := mI152) rfl rfl rfl h
  have hc2_4 := hc
  clear hc
  by_cases hc : x = 5
  · replace h := h.2.2.2.2.2.1 hc
    refine r_sw hV (pc' := 106) rfl (by decide) (by rw [hc]; rfl) ?_
    refine r_aload_n hV rfl rfl (pc' := 107) rfl ?_
    refine tt_getR hV (tg := 6) (ci := 11) (kf := 8) rfl rfl (by decide) (hB _ _ rfl) rfl (by decide) (pc' := 110) rfl ?_
    refine tt_getI hV (tg := 0) (ci := 8) (kf := 7) rfl rfl (by decide) (hB _ _ rfl) rfl (by decide) (pc' := 113) rfl ?_
    exact rq_ret (q := mI152) rfl rfl rfl h
  have hc2_5 := hc
  clear hc
  by_cases hc : x = 6
  · replace h := h.2.2.2.2.2.2.1 hc
    refine r_sw hV (pc' := 114) rfl (by decide) (by rw [hc]; rfl) ?_
    refine r_aload_n hV rfl rfl (pc' := 115) rfl ?_
    refine tt_getR hV (tg := 6) (ci := 11) (kf := 8) rfl rfl (by decide) (hB _ _ rfl) rfl (by decide) (pc' := 118) rfl ?_
    refine tt_getI hV (tg := 0) (ci := 8) (kf := 8) rfl rfl (by decide) (hB _ _ rfl) rfl (by decide) (pc' := 121) rfl ?_
    exact rq_ret (q := mI152) rfl rfl rfl h
  have hc2_6 := hc
  clear hc
  by_cases hc : x = 7
  · replace h := h.2.2.2.2.2.2.2.1 hc
    refine r_sw hV (pc' := 122) rfl (by decide) (by rw [hc]; rfl) ?_
    refine r_aload_n hV rfl rfl (pc' := 123) rfl ?_
    refine tt_getR hV (tg := 6) (ci := 11) (kf := 8) rfl rfl (by decide) (hB _ _ rfl) rfl (by decide) (pc' := 126) rfl ?_
    refine tt_getI hV (tg := 0) (ci := 8) (kf := 4) rfl rfl (by decide) (hB _ _ rfl) rfl (by decide) (pc' := 129) rfl ?_
    exact rq_ret (q := mI152) rfl rfl rfl h
  have hc2_7 := hc
  clear hc
  by_cases hc : x = 8
  · replace h := h.2.2.2.2.2.2.2.2.1 hc
    refine r_sw hV (pc' := 130) rfl (by decide) (by rw [hc]; rfl) ?_
    refine r_aload_n hV rfl rfl (pc' := 131) rfl ?_
    refine tt_getR hV (tg := 6) (ci := 11) (kf := 8) rfl rfl (by decide) (hB _ _ rfl) rfl (by decide) (pc' := 134) rfl ?_
    refine tt_getI hV (tg := 0) (ci := 8) (kf := 9) rfl rfl (by decide) (hB _ _ rfl) rfl (by decide) (pc' := 137) rfl ?_
    exact rq_ret (q := mI152) rfl rfl rfl h
  have hc2_8 := hc
  clear hc
  by_cases hc : x = 9
  · replace h := h.2.2.2.2.2.2.2.2.2.1 hc
    refine r_sw hV (pc' := 138) rfl (by decide) (by rw [hc]; rfl) ?_
    refine r_aload_n hV rfl rfl (pc' := 139) rfl ?_
    refine tt_getI hV (tg := 0) (ci := 11) (kf := 14) rfl rfl (by decide) (hB _ _ rfl) rfl (by decide) (pc' := 142) rfl ?_
    exact rq_ret (q := mI152) rfl rfl rfl h
  have hc2_9 := hc
  clear hc
  by_cases hc : x = 10
  · replace h := h.2.2.2.2.2.2.2.2.2.2.1 hc
    refine r_sw hV (pc' := 143) rfl (by decide) (by rw [hc]; rfl) ?_
    refine r_aload_n hV rfl rfl (pc' := 144) rfl ?_
    refine tt_getR hV (tg := 6) (ci := 11) (kf := 12) rfl rfl (by decide) (hB _ _ rfl) rfl (by decide) (pc' := 147) rfl ?_
    refine tt_getI hV (tg := 0) (ci := 10) (kf := 0) rfl rfl (by decide) (hB _ _ rfl) rfl (by decide) (pc' := 150) rfl ?_
    exact rq_ret (q := mI152) rfl rfl rfl h
  have hc2_10 := hc
  clear hc
  by_cases hc : x = 11
  · replace h := h.2.2.2.2.2.2.2.2.2.2.2.1 hc
    refine r_sw hV (pc' := 151) rfl (by decide) (by rw [hc]; rfl) ?_
    refine r_aload_n hV rfl rfl (pc' := 152) rfl ?_
    obtain ⟨c, hc, h⟩ := h
    have hcs := csh_of hB hc
    obtain ⟨g5, h⟩ := h
    refine tt_getP hV (tg := 0) (ci := 11) (kf := 6) rfl rfl (by decide) (hB _ _ rfl) rfl (by decide) (b := c) g5 (pc' := 155) rfl ?_
    refine tt_getI hV (tg := 0) (ci := 0) (kf := 5) rfl rfl (by decide) hcs.1 rfl (by decide) (pc' := 158) rfl ?_
    exact rq_ret (q := mI152) rfl rfl rfl h
  have hc2_11 := hc
  clear hc
  by_cases hc : x = 12
  · replace h := h.2.2.2.2.2.2.2.2.2.2.2.2.1 hc
    refine r_sw hV (pc' := 159) rfl (by decide) (by rw [hc]; rfl) ?_
    refine r_aload_n hV rfl rfl (pc' := 160) rfl ?_
    refine tt_getR hV (tg := 6) (ci := 11) (kf := 10) rfl rfl (by decide) (hB _ _ rfl) rfl (by decide) (pc' := 163) rfl ?_
    refine r_aload_n hV rfl rfl (pc' := 164) rfl ?_
    refine tt_getR hV (tg := 6) (ci := 11) (kf := 8) rfl rfl (by decide) (hB _ _ rfl) rfl (by decide) (pc' := 167) rfl ?_
    obtain ⟨v167, m167, h, hr⟩ := h
    refine tt_cv1I hV rfl rfl rfl (Wd_obj (hB _ _ rfl)) (Nat.le_of_ble_eq_true rfl) (Nat.le_of_ble_eq_true rfl) rfl hr (pc' := 170) rfl ?_
    exact rq_ret (q := mI152) rfl rfl rfl h
  have hc2_12 := hc
  clear hc
  by_cases hc : x = 13
  · replace h := h.2.2.2.2.2.2.2.2.2.2.2.2.2.1 hc
    refine r_sw hV (pc' := 171) rfl (by decide) (by rw [hc]; rfl) ?_
    refine r_aload_n hV rfl rfl (pc' := 172) rfl ?_
    refine tt_getR hV (tg := 6) (ci := 11) (kf := 10) rfl rfl (by decide) (hB _ _ rfl) rfl (by decide) (pc' := 175) rfl ?_
    refine tt_getI hV (tg := 0) (ci := 3) (kf := 0) rfl rfl (by decide) (hB _ _ rfl) rfl (by decide) (pc' := 178) rfl ?_
    exact rq_ret (q := mI152) rfl rfl rfl h
  have hc2_13 := hc
  clear hc
  replace h := h.2.2.2.2.2.2.2.2.2.2.2.2.2.2 ⟨hc2_0, hc2_1, hc2_2, hc2_3, hc2_4, hc2_5, hc2_6, hc2_7, hc2_8, hc2_9, hc2_10, hc2_11, hc2_12, hc2_13⟩
  refine r_sw hV (pc' := 179) rfl (by decide) ?_ ?_
  · exact sw_tab g1 (by clear h; omega) (by decide)
  refine v_ldc hV (Int32.ofInt (-1000000)) rfl rfl rfl (pc' := 181) rfl ?_
  exact rq_ret (q := mI152) rfl rfl rfl h
theorem V_hasCantonw {X : Cx} {d : Nat} {m : Mm} {Q : Int → Mm → Prop} (hB : Bsh X.2.2.1) (h : ∃ c : Nat, cO c ∧ (m 0 6 = (c : Int)) ∧ (-2147483648 ≤ (m c 4) ∧ (m c 4) < 2147483648) ∧ (m c 4 ≤ 0 → Q 0 m) ∧ (0 < m c 4 → Q 1 m)) : V_hasCanton X d m Q := by
  unfold V_hasCanton
  have hV : Clo (gP X.1 X.2.1) d 153 1 false (Rq (gP X.1 X.2.1) d 153 X.2.2.1 X.2.2.2 Q) := Rq_clo (q := mI153) rfl
  refine r_aload_n hV rfl rfl (pc' := 1) rfl ?_
  obtain ⟨c, hc, h⟩ := h
  have hcs := csh_of hB hc
  obtain ⟨g1, h⟩ := h
  refine tt_getP hV (tg := 0) (ci := 11) (kf := 6) rfl rfl (by decide) (hB _ _ rfl) rfl (by decide) (b := c) g1 (pc' := 4) rfl ?_
  refine tt_getI hV (tg := 0) (ci := 0) (kf := 4) rfl rfl (by decide) hcs.1 rfl (by decide) (pc' := 7) rfl ?_
  obtain ⟨g2, h⟩ := h
  refine tt_if_le hV rfl g2 (pt := 14) (by decide) (pf := 10) rfl (fun hc => ?_) (fun hc => ?_)
  · replace h := h.1 hc
    refine tt_iconst hV rfl (pc' := 15) rfl ?_
    exact rq_ret (q := mI153) rfl rfl rfl h
  · replace h := h.2 (Int.not_le.mp hc)
    refine tt_iconst hV rfl (pc' := 11) rfl ?_
    refine r_goto hV rfl (pc' := 15) (by decide) ?_
    exact rq_ret (q := mI153) rfl rfl rfl h
theorem V_isMemberw {X : Cx} {d : Nat} {x : Int} {m : Mm} {Q : Int → Mm → Prop} (hB : Bsh X.2.2.1) (h : (-2147483648 ≤ x ∧ x < 2147483648) ∧ (x < 0 → Q 0 m) ∧ (0 ≤ x → ∃ c : Nat, cO c ∧ (m 0 6 = (c : Int)) ∧ (-2147483648 ≤ (m c 4) ∧ (m c 4) < 2147483648) ∧ (m c 4 ≤ x → Q 0 m) ∧ (x < m c 4 → Q 1 m))) : V_isMember X d x m Q := by
  unfold V_isMember
  have hV : Clo (gP X.1 X.2.1) d 154 2 false (Rq (gP X.1 X.2.1) d 154 X.2.2.1 X.2.2.2 Q) := Rq_clo (q := mI154) rfl
  refine r_iload_n hV rfl rfl (pc' := 1) rfl ?_
  obtain ⟨g1, h⟩ := h
  refine tt_if_lt hV rfl g1 (pt := 19) (by decide) (pf := 4) rfl (fun hc => ?_) (fun hc => ?_)
  · replace h := h.1 hc
    refine tt_iconst hV rfl (pc' := 20) rfl ?_
    exact rq_ret (q := mI154) rfl rfl rfl h
  · replace h := h.2 (Int.not_lt.mp hc)
    refine r_iload_n hV rfl rfl (pc' := 5) rfl ?_
    refine r_aload_n hV rfl rfl (pc' := 6) rfl ?_
    obtain ⟨c, hc, h⟩ := h
    have hcs := csh_of hB hc
    obtain ⟨g2, h⟩ := h
    refine tt_getP hV (tg := 0) (ci := 11) (kf := 6) rfl rfl (by decide) (hB _ _ rfl) rfl (by decide) (b := c) g2 (pc' := 9) rfl ?_
    refine tt_getI hV (tg := 0) (ci := 0) (kf := 4) rfl rfl (by decide) hcs.1 rfl (by decide) (pc' := 12) rfl ?_
    obtain ⟨g3, h⟩ := h
    refine tt_icmp_ge hV rfl g1 g3 (pt := 19) (by decide) (pf := 15) rfl (fun hc => ?_) (fun hc => ?_)
    · replace h := h.1 hc
      refine tt_iconst hV rfl (pc' := 20) rfl ?_
      exact rq_ret (q := mI154) rfl rfl rfl h
    · replace h := h.2 (Int.not_le.mp hc)
      refine tt_iconst hV rfl (pc' := 16) rfl ?_
      refine r_goto hV rfl (pc' := 20) (by decide) ?_
      exact rq_ret (q := mI154) rfl rfl rfl h
theorem V_isBumpw {X : Cx} {d : Nat} {x : Int} {m : Mm} {Q : Int → Mm → Prop} (hB : Bsh X.2.2.1) (h : (-2147483648 ≤ x ∧ x < 2147483648) ∧ (x < 0 → Q 0 m) ∧ (0 ≤ x → ∃ c : Nat, cO c ∧ (m 0 6 = (c : Int)) ∧ (-2147483648 ≤ (m c 3) ∧ (m c 3) < 2147483648) ∧ (m c 3 ≤ x → Q 0 m) ∧ (x < m c 3 → Q 1 m))) : V_isBump X d x m Q := by
  unfold V_isBump
  have hV : Clo (gP X.1 X.2.1) d 155 2 false (Rq (gP X.1 X.2.1) d 155 X.2.2.1 X.2.2.2 Q) := Rq_clo (q := mI155) rfl
  refine r_iload_n hV rfl rfl (pc' := 1) rfl ?_
  obtain ⟨g1, h⟩ := h
  refine tt_if_lt hV rfl g1 (pt := 19) (by decide) (pf := 4) rfl (fun hc => ?_) (fun hc => ?_)
  · replace h := h.1 hc
    refine tt_iconst hV rfl (pc' := 20) rfl ?_
    exact rq_ret (q := mI155) rfl rfl rfl h
  · replace h := h.2 (Int.not_lt.mp hc)
    refine r_iload_n hV rfl rfl (pc' := 5) rfl ?_
    refine r_aload_n hV rfl rfl (pc' := 6) rfl ?_
    obtain ⟨c, hc, h⟩ := h
    have hcs := csh_of hB hc
    obtain ⟨g2, h⟩ := h
    refine tt_getP hV (tg := 0) (ci := 11) (kf := 6) rfl rfl (by decide) (hB _ _ rfl) rfl (by decide) (b := c) g2 (pc' := 9) rfl ?_
    refine tt_getI hV (tg := 0) (ci := 0) (kf := 3) rfl rfl (by decide) hcs.1 rfl (by decide) (pc' := 12) rfl ?_
    obtain ⟨g3, h⟩ := h
    refine tt_icmp_ge hV rfl g1 g3 (pt := 19) (by decide) (pf := 15) rfl (fun hc => ?_) (fun hc => ?_)
    · replace h := h.1 hc
      refine tt_iconst hV rfl (pc' := 20) rfl ?_
      exact rq_ret (q := mI155) rfl rfl rfl h
    · replace h := h.2 (Int.not_le.mp hc)
      refine tt_iconst hV rfl (pc' := 16) rfl ?_
      refine r_goto hV rfl (pc' := 20) (by decide) ?_
      exact rq_ret (q := mI155) rfl rfl rfl h
theorem V_isSidew {X : Cx} {d : Nat} {x : Int} {m : Mm} {Q : Int → Mm → Prop} (hB : Bsh X.2.2.1) (h : (-2147483648 ≤ x ∧ x < 2147483648) ∧ (x < 0 → Q 0 m) ∧ (0 ≤ x → (2 < x → Q 0 m) ∧ (x ≤ 2 → Q 1 m))) : V_isSide X d x m Q := by
  unfold V_isSide
  have hV : Clo (gP X.1 X.2.1) d 156 1 false (Rq (gP X.1 X.2.1) d 156 X.2.2.1 X.2.2.2 Q) := Rq_clo (q := mI156) rfl
  refine r_iload_n hV rfl rfl (pc' := 1) rfl ?_
  obtain ⟨g1, h⟩ := h
  refine tt_if_lt hV rfl g1 (pt := 13) (by decide) (pf := 4) rfl (fun hc => ?_) (fun hc => ?_)
  · replace h := h.1 hc
    refine tt_iconst hV rfl (pc' := 14) rfl ?_
    exact rq_ret (q := mI156) rfl rfl rfl h
  · replace h := h.2 (Int.not_lt.mp hc)
    refine r_iload_n hV rfl rfl (pc' := 5) rfl ?_
    refine tt_iconst hV rfl (pc' := 6) rfl ?_
    refine tt_icmp_gt hV rfl g1 (by decide) (pt := 13) (by decide) (pf := 9) rfl (fun hc => ?_) (fun hc => ?_)
    · replace h := h.1 hc
      refine tt_iconst hV rfl (pc' := 14) rfl ?_
      exact rq_ret (q := mI156) rfl rfl rfl h
    · replace h := h.2 (Int.not_lt.mp hc)
      refine tt_iconst hV rfl (pc' := 10) rfl ?_
      refine r_goto hV rfl (pc' := 14) (by decide) ?_
      exact rq_ret (q := mI156) rfl rfl rfl h
theorem V_refusew {X : Cx} {d : Nat} {x : Int} {m : Mm} {Q : Int → Mm → Prop} (hB : Bsh X.2.2.1) (h : (0 ≤ x ∧ x < 5) ∧ Q (-1) (up m 82 x (m 82 x + 1))) : V_refuse X d x m Q := by
  unfold V_refuse
  have hV : Clo (gP X.1 X.2.1) d 157 2 false (Rq (gP X.1 X.2.1) d 157 X.2.2.1 X.2.2.2 Q) := Rq_clo (q := mI157) rfl
  refine r_aload_n hV rfl rfl (pc' := 1) rfl ?_
  refine tt_getR hV (tg := 6) (ci := 11) (kf := 13) rfl rfl (by decide) (hB _ _ rfl) rfl (by decide) (pc' := 4) rfl ?_
  refine r_iload_n hV rfl rfl (pc' := 5) rfl ?_
  refine r_dup2 hV rfl rfl rfl (pc' := 6) rfl ?_
  obtain ⟨g1, h⟩ := h
  refine q_iald hV rfl (hB _ _ rfl) (Nat.le_of_ble_eq_true rfl) rfl g1 (pc' := 7) rfl ?_
  refine tt_iconst hV rfl (pc' := 8) rfl ?_
  refine tt_iadd hV rfl (pc' := 9) rfl ?_
  refine q_iast hV rfl (hB _ _ rfl) (Nat.le_of_ble_eq_true rfl) rfl g1 (pc' := 10) rfl ?_
  refine tt_iconst hV rfl (pc' := 11) rfl ?_
  exact rq_ret (q := mI157) rfl rfl rfl h
theorem V_takeCantonw {X : Cx} {d : Nat} {m : Mm} {Q : Int → Mm → Prop} (hB : Bsh X.2.2.1) (h : ∃ c : Nat, cO c ∧ (m 0 7 = (c : Int)) ∧ (m 0 6 = (c : Int)) ∧ T_begin X d 17 c (up (up (up m 0 7 (c : Int)) 0 6 (c : Int)) 18 0 (c : Int)) (fun m31 => H_forget X d m31 (fun m38 => (m38 0 6 = (c : Int)) ∧ Q (m38 c 4) (up (up m38 73 0 0) 1 1 0)))) : V_takeCanton X (d + 1) m Q := by
  unfold V_takeCanton
  have hV : Clo (gP X.1 X.2.1) (d + 1) 158 2 false (Rq (gP X.1 X.2.1) (d + 1) 158 X.2.2.1 X.2.2.2 Q) := Rq_clo (q := mI158) rfl
  refine r_aload_n hV rfl rfl (pc' := 1) rfl ?_
  obtain ⟨c, hc, h⟩ := h
  have hcs := csh_of hB hc
  obtain ⟨g1, h⟩ := h
  refine tt_getP hV (tg := 0) (ci := 11) (kf := 7) rfl rfl (by decide) (hB _ _ rfl) rfl (by decide) (b := c) g1 (pc' := 4) rfl ?_
  refine tt_astore1 hV rfl rfl (pc' := 5) rfl ?_
  refine r_aload_n hV rfl rfl (pc' := 6) rfl ?_
  refine r_aload_n hV rfl rfl (pc' := 7) rfl ?_
  obtain ⟨g2, h⟩ := h
  refine tt_getP hV (tg := 0) (ci := 11) (kf := 6) rfl rfl (by decide) (hB _ _ rfl) rfl (by decide) (b := c) g2 (pc' := 10) rfl ?_
  refine tt_putP hV (tg := 0) (ci := 11) (kf := 7) rfl rfl (Or.inl rfl) (hB _ _ rfl) rfl (by decide) rfl (pc' := 13) rfl ?_
  refine r_aload_n hV rfl rfl (pc' := 14) rfl ?_
  refine r_aload_n hV rfl rfl (pc' := 15) rfl ?_
  refine tt_putP hV (tg := 0) (ci := 11) (kf := 6) rfl rfl (Or.inl rfl) (hB _ _ rfl) rfl (by decide) rfl (pc' := 18) rfl ?_
  refine r_aload_n hV rfl rfl (pc' := 19) rfl ?_
  refine tt_getR hV (tg := 6) (ci := 11) (kf := 9) rfl rfl (by decide) (hB _ _ rfl) rfl (by decide) (pc' := 22) rfl ?_
  refine r_aload_n hV rfl rfl (pc' := 23) rfl ?_
  refine tt_putP hV (tg := 0) (ci := 7) (kf := 0) rfl rfl (Or.inl rfl) (hB _ _ rfl) rfl (by decide) rfl (pc' := 26) rfl ?_
  refine r_aload_n hV rfl rfl (pc' := 27) rfl ?_
  refine tt_getR hV (tg := 6) (ci := 11) (kf := 8) rfl rfl (by decide) (hB _ _ rfl) rfl (by decide) (pc' := 30) rfl ?_
  refine r_aload_n hV rfl rfl (pc' := 31) rfl ?_
  obtain ⟨m31, h, hr⟩ := h
  refine tt_cv1U hV rfl rfl rfl (Wd_obj (hB _ _ rfl)) (Nat.le_of_ble_eq_true rfl) (Nat.le_of_ble_eq_true rfl) rfl hr (pc' := 34) rfl ?_
  refine r_aload_n hV rfl rfl (pc' := 35) rfl ?_
  refine tt_getR hV (tg := 6) (ci := 11) (kf := 10) rfl rfl (by decide) (hB _ _ rfl) rfl (by decide) (pc' := 38) rfl ?_
  obtain ⟨m38, h, hr⟩ := h
  refine tt_cv0U hV rfl rfl rfl (Wd_obj (hB _ _ rfl)) (Nat.le_of_ble_eq_true rfl) (Nat.le_of_ble_eq_true rfl) rfl hr (pc' := 41) rfl ?_
  refine r_aload_n hV rfl rfl (pc' := 42) rfl ?_
  refine tt_getR hV (tg := 6) (ci := 11) (kf := 12) rfl rfl (by decide) (hB _ _ rfl) rfl (by decide) (pc' := 45) rfl ?_
  refine tt_iconst hV rfl (pc' := 46) rfl ?_
  refine tt_putI hV (tg := 0) (ci := 10) (kf := 0) rfl rfl (Or.inl rfl) (hB _ _ rfl) rfl (by decide) rfl (pc' := 49) rfl ?_
  refine r_aload_n hV rfl rfl (pc' := 50) rfl ?_
  refine tt_getR hV (tg := 6) (ci := 11) (kf := 0) rfl rfl (by decide) (hB _ _ rfl) rfl (by decide) (pc' := 53) rfl ?_
  refine tt_iconst hV rfl (pc' := 54) rfl ?_
  refine tt_putI hV (tg := 0) (ci := 9) (kf := 1) rfl rfl (Or.inl rfl) (hB _ _ rfl) rfl (by decide) rfl (pc' := 57) rfl ?_
  refine r_aload_n hV rfl rfl (pc' := 58) rfl ?_
  obtain ⟨g3, h⟩ := h
  refine tt_getP hV (tg := 0) (ci := 11) (kf := 6) rfl rfl (by decide) (hB _ _ rfl) rfl (by decide) (b := c) (((up_ne (Or.inl (by decide))).trans (up_ne (Or.inl (by decide)))).trans g3) (pc' := 61) rfl ?_
  refine tt_getI hV (tg := 0) (ci := 0) (kf := 4) rfl rfl (by decide) hcs.1 rfl (by decide) (pc' := 64) rfl ?_
  refine vtI (y := m38 c 4) ((up_ne (Or.inl (by clear h; omega))).trans (up_ne (Or.inl (by clear h; omega)))) ?_
  exact rq_ret (q := mI158) rfl rfl rfl h
theorem V_goARoww {X : Cx} {d : Nat} {m : Mm} {Q : Mm → Prop} (hB : Bsh X.2.2.1) (h : S_step X d 17 m (fun m8 => H_noteRow X d (m8 18 2) (m8 18 3) m8 (fun m33 => Q m33))) : V_goARow X (d + 1) m Q := by
  unfold V_goARow
  have hV : Clo (gP X.1 X.2.1) (d + 1) 160 1 false (Ru0 (gP X.1 X.2.1) (d + 1) 160 X.2.2.1 X.2.2.2 Q) := Ru0_clo (q := mI160) rfl
  refine r_aload_n hV rfl rfl (pc' := 1) rfl ?_
  refine tt_getR hV (tg := 6) (ci := 11) (kf := 9) rfl rfl (by decide) (hB _ _ rfl) rfl (by decide) (pc' := 4) rfl ?_
  refine r_aload_n hV rfl rfl (pc' := 5) rfl ?_
  refine tt_getR hV (tg := 6) (ci := 11) (kf := 8) rfl rfl (by decide) (hB _ _ rfl) rfl (by decide) (pc' := 8) rfl ?_
  obtain ⟨m8, h, hr⟩ := h
  refine tt_cv1U hV rfl rfl rfl (Wd_obj (hB _ _ rfl)) (Nat.le_of_ble_eq_true rfl) (Nat.le_of_ble_eq_true rfl) rfl hr (pc' := 11) rfl ?_
  refine r_aload_n hV rfl rfl (pc' := 12) rfl ?_
  refine tt_getR hV (tg := 6) (ci := 11) (kf := 10) rfl rfl (by decide) (hB _ _ rfl) rfl (by decide) (pc' := 15) rfl ?_
  refine r_aload_n hV rfl rfl (pc' := 16) rfl ?_
  refine tt_getR hV (tg := 6) (ci := 11) (kf := 8) rfl rfl (by decide) (hB _ _ rfl) rfl (by decide) (pc' := 19) rfl ?_
  refine r_aload_n hV rfl rfl (pc' := 20) rfl ?_
  refine tt_getR hV (tg := 6) (ci := 11) (kf := 9) rfl rfl (by decide) (hB _ _ rfl) rfl (by decide) (pc' := 23) rfl ?_
  refine tt_getI hV (tg := 0) (ci := 7) (kf := 2) rfl rfl (by decide) (hB _ _ rfl) rfl (by decide) (pc' := 26) rfl ?_
  refine r_aload_n hV rfl rfl (pc' := 27) rfl ?_
  refine tt_getR hV (tg := 6) (ci := 11) (kf := 9) rfl rfl (by decide) (hB _ _ rfl) rfl (by decide) (pc' := 30) rfl ?_
  refine tt_getI hV (tg := 0) (ci := 7) (kf := 3) rfl rfl (by decide) (hB _ _ rfl) rfl (by decide) (pc' := 33) rfl ?_
  obtain ⟨m33, h, hr⟩ := h
  refine tt_cv3U hV rfl rfl rfl (Wd_obj (hB _ _ rfl)) (Nat.le_of_ble_eq_true rfl) (Nat.le_of_ble_eq_true rfl) rfl hr (pc' := 36) rfl ?_
  exact ru0_ret (q := mI160) rfl rfl rfl h
theorem V_draww {X : Cx} {d : Nat} {x : Int} {m : Mm} {Q : Int → Mm → Prop} (hB : Bsh X.2.2.1) (h : (-2147483648 ≤ x ∧ x < 2147483648) ∧ (1 ≤ x → (¬ Int64.ofInt x = 0) ∧ Q ((jRm (jUr (((m 0 15) * 6364136223846793005) + 1442695040888963407) 33) x)) (up m 0 15 (((m 0 15) * 6364136223846793005) + 1442695040888963407))) ∧ (x < 1 → Q 0 (up m 0 15 (((m 0 15) * 6364136223846793005) + 1442695040888963407)))) : V_draw X d x m Q := by
  unfold V_draw
  have hV : Clo (gP X.1 X.2.1) d 161 2 false (Rq (gP X.1 X.2.1) d 161 X.2.2.1 X.2.2.2 Q) := Rq_clo (q := mI161) rfl
  refine r_aload_n hV rfl rfl (pc' := 1) rfl ?_
  refine r_aload_n hV rfl rfl (pc' := 2) rfl ?_
  refine tt_getJ hV (tg := 0) (ci := 11) (kf := 15) rfl rfl (by decide) (hB _ _ rfl) rfl (by decide) (pc' := 5) rfl ?_
  refine v_ldc2 hV (Int64.ofInt 6364136223846793005) rfl rfl rfl (pc' := 8) rfl ?_
  refine tt_lmul hV rfl (pc' := 9) rfl ?_
  refine v_ldc2 hV (Int64.ofInt 1442695040888963407) rfl rfl rfl (pc' := 12) rfl ?_
  refine tt_ladd hV rfl (pc' := 13) rfl ?_
  refine tt_putJ hV (tg := 0) (ci := 11) (kf := 15) rfl rfl (Or.inl rfl) (hB _ _ rfl) rfl (by decide) rfl (pc' := 16) rfl ?_
  refine r_iload_n hV rfl rfl (pc' := 17) rfl ?_
  refine tt_iconst hV rfl (pc' := 18) rfl ?_
  obtain ⟨g1, h⟩ := h
  refine tt_icmp_ge hV rfl g1 (by decide) (pt := 25) (by decide) (pf := 21) rfl (fun hc => ?_) (fun hc => ?_)
  · replace h := h.1 hc
    refine r_aload_n hV rfl rfl (pc' := 26) rfl ?_
    refine tt_getJ hV (tg := 0) (ci := 11) (kf := 15) rfl rfl (by decide) (hB _ _ rfl) rfl (by decide) (pc' := 29) rfl ?_
    refine vtJ (y := (((m 0 15) * 6364136223846793005) + 1442695040888963407)) (up_same _ _ _ _) ?_
    refine tt_bipush hV rfl (by decide) (pc' := 31) rfl ?_
    refine tt_lushr hV rfl (pc' := 32) rfl ?_
    refine r_iload_n hV rfl rfl (pc' := 33) rfl ?_
    refine tt_i2l hV rfl g1 (pc' := 34) rfl ?_
    obtain ⟨g2, h⟩ := h
    refine tt_lrem hV rfl g2 (pc' := 35) rfl ?_
    refine tt_l2i hV rfl (pc' := 36) rfl ?_
    exact rq_ret (q := mI161) rfl rfl rfl h
  · replace h := h.2 (Int.not_le.mp hc)
    refine tt_iconst hV rfl (pc' := 22) rfl ?_
    refine r_goto hV rfl (pc' := 36) (by decide) ?_
    exact rq_ret (q := mI161) rfl rfl rfl h
theorem V_holdSessionw {X : Cx} {d : Nat} {m : Mm} {Q : Mm → Prop} (hB : Bsh X.2.2.1) (h : ∃ c : Nat, cO c ∧ (m 0 6 = (c : Int)) ∧ K_lastRow X d c m (fun v11 m11 => (-2147483648 ≤ (m 17 7) ∧ (m 17 7) < 2147483648) ∧ (-2147483648 ≤ v11 ∧ v11 < 2147483648) ∧ (m 17 7 < v11 → V_holdSession_30 X (d + 1) 0 m11 Q) ∧ (v11 ≤ m 17 7 → (m11 0 6 = (c : Int)) ∧ T_walkBack X d 17 c m11 (fun m25 => V_holdSession_30 X (d + 1) 0 m25 Q)))) : V_holdSession X (d + 1) m Q := by
  unfold V_holdSession
  have hV : Clo (gP X.1 X.2.1) (d + 1) 162 3 false (Ru0 (gP X.1 X.2.1) (d + 1) 162 X.2.2.1 X.2.2.2 Q) := Ru0_clo (q := mI162) rfl
  refine r_aload_n hV rfl rfl (pc' := 1) rfl ?_
  refine tt_getR hV (tg := 6) (ci := 11) (kf := 8) rfl rfl (by decide) (hB _ _ rfl) rfl (by decide) (pc' := 4) rfl ?_
  refine tt_getI hV (tg := 0) (ci := 8) (kf := 7) rfl rfl (by decide) (hB _ _ rfl) rfl (by decide) (pc' := 7) rfl ?_
  refine r_aload_n hV rfl rfl (pc' := 8) rfl ?_
  obtain ⟨c, hc, h⟩ := h
  have hcs := csh_of hB hc
  obtain ⟨g1, h⟩ := h
  refine tt_getP hV (tg := 0) (ci := 11) (kf := 6) rfl rfl (by decide) (hB _ _ rfl) rfl (by decide) (b := c) g1 (pc' := 11) rfl ?_
  obtain ⟨v11, m11, h, hr⟩ := h
  refine tt_cv0I hV rfl rfl rfl (Wd_obj hcs.1) (Nat.le_of_ble_eq_true rfl) (Nat.le_of_ble_eq_true rfl) rfl hr (pc' := 14) rfl ?_
  obtain ⟨g2, h⟩ := h
  obtain ⟨g3, h⟩ := h
  refine tt_icmp_lt hV rfl g2 g3 (pt := 28) (by decide) (pf := 17) rfl (fun hc => ?_) (fun hc => ?_)
  · replace h := h.1 hc
    refine tt_iconst hV rfl (pc' := 29) rfl ?_
    refine tt_istore1 hV rfl rfl (pc' := 30) rfl ?_
    exact h
  · replace h := h.2 (Int.not_lt.mp hc)
    refine r_aload_n hV rfl rfl (pc' := 18) rfl ?_
    refine tt_getR hV (tg := 6) (ci := 11) (kf := 8) rfl rfl (by decide) (hB _ _ rfl) rfl (by decide) (pc' := 21) rfl ?_
    refine r_aload_n hV rfl rfl (pc' := 22) rfl ?_
    obtain ⟨g4, h⟩ := h
    refine tt_getP hV (tg := 0) (ci := 11) (kf := 6) rfl rfl (by decide) (hB _ _ rfl) rfl (by decide) (b := c) g4 (pc' := 25) rfl ?_
    obtain ⟨m25, h, hr⟩ := h
    refine tt_cv1U hV rfl rfl rfl (Wd_obj (hB _ _ rfl)) (Nat.le_of_ble_eq_true rfl) (Nat.le_of_ble_eq_true rfl) rfl hr (pc' := 28) rfl ?_
    refine tt_iconst hV rfl (pc' := 29) rfl ?_
    refine tt_istore1 hV rfl rfl (pc' := 30) rfl ?_
    exact h
theorem V_holdSession_30w {X : Cx} {d : Nat} {l1 : Int} {m : Mm} {Q : Mm → Prop} (hB : Bsh X.2.2.1) (h : ∃ c : Nat, cO c ∧ (m 0 6 = (c : Int)) ∧ (-2147483648 ≤ l1 ∧ l1 < 2147483648) ∧ (-2147483648 ≤ (m c 4) ∧ (m c 4) < 2147483648) ∧ (m c 4 ≤ l1 → V_draw X d 10 m (fun v73 m73 => (-2147483648 ≤ v73 ∧ v73 < 2147483648) ∧ (-2147483648 ≤ (m73 0 14) ∧ (m73 0 14) < 2147483648) ∧ (m73 0 14 ≤ v73 → V_holdSession_129 X (d + 1) (m73 17 7) none m73 Q) ∧ (v73 < m73 0 14 → (m73 0 6 = (c : Int)) ∧ V_draw X d (m73 c 4) m73 (fun v91 m91 => (m91 0 6 = (c : Int)) ∧ V_draw X d (m91 c 4) m91 (fun v103 m103 => (-2147483648 ≤ v91 ∧ v91 < 2147483648) ∧ (-2147483648 ≤ v103 ∧ v103 < 2147483648) ∧ (v91 = v103 → V_holdSession_129 X (d + 1) (m103 17 7) (some v103) m103 Q) ∧ (v91 ≠ v103 → T_swapSeats X d 17 v91 v103 m103 (fun m118 => V_holdSession_129 X (d + 1) (m118 17 7) (some v103) m118 Q))))))) ∧ (l1 < m c 4 → V_draw X d 3 m (fun v55 m55 => T_with X d (m 17 1) l1 v55 m55 (fun v58 m58 => V_holdSession_30 X (d + 1) (l1 + 1) (up m58 17 1 v58) Q)))) : V_holdSession_30 X (d + 1) l1 m Q := by
  unfold V_holdSession_30
  have hV : Clo (gP X.1 X.2.1) (d + 1) 162 3 false (Ru0 (gP X.1 X.2.1) (d + 1) 162 X.2.2.1 X.2.2.2 Q) := Ru0_clo (q := mI162) rfl
  refine r_iload_n hV rfl rfl (pc' := 31) rfl ?_
  refine r_aload_n hV rfl rfl (pc' := 32) rfl ?_
  obtain ⟨c, hc, h⟩ := h
  have hcs := csh_of hB hc
  obtain ⟨g5, h⟩ := h
  refine tt_getP hV (tg := 0) (ci := 11) (kf := 6) rfl rfl (by decide) (hB _ _ rfl) rfl (by decide) (b := c) g5 (pc' := 35) rfl ?_
  refine tt_getI hV (tg := 0) (ci := 0) (kf := 4) rfl rfl (by decide) hcs.1 rfl (by decide) (pc' := 38) rfl ?_
  obtain ⟨g6, h⟩ := h
  obtain ⟨g7, h⟩ := h
  refine tt_icmp_ge hV rfl g6 g7 (pt := 70) (by decide) (pf := 41) rfl (fun hc => ?_) (fun hc => ?_)
  · replace h := h.1 hc
    refine r_aload_n hV rfl rfl (pc' := 71) rfl ?_
    refine tt_bipush hV rfl (by decide) (pc' := 73) rfl ?_
    obtain ⟨v73, m73, h, hr⟩ := h
    refine tt_cv1I hV rfl rfl rfl (Wd_obj (hB _ _ rfl)) (Nat.le_of_ble_eq_true rfl) (Nat.le_of_ble_eq_true rfl) rfl hr (pc' := 76) rfl ?_
    refine r_aload_n hV rfl rfl (pc' := 77) rfl ?_
    refine tt_getI hV (tg := 0) (ci := 11) (kf := 14) rfl rfl (by decide) (hB _ _ rfl) rfl (by decide) (pc' := 80) rfl ?_
    obtain ⟨g8, h⟩ := h
    obtain ⟨g9, h⟩ := h
    refine tt_icmp_ge hV rfl g8 g9 (pt := 121) (by decide) (pf := 83) rfl (fun hc => ?_) (fun hc => ?_)
    · replace h := h.1 hc
      refine r_aload_n hV rfl rfl (pc' := 122) rfl ?_
      refine tt_getR hV (tg := 6) (ci := 11) (kf := 8) rfl rfl (by decide) (hB _ _ rfl) rfl (by decide) (pc' := 125) rfl ?_
      refine tt_getI hV (tg := 0) (ci := 8) (kf := 7) rfl rfl (by decide) (hB _ _ rfl) rfl (by decide) (pc' := 128) rfl ?_
      refine tt_istore1 hV rfl rfl (pc' := 129) rfl ?_
      exact h
    · replace h := h.2 (Int.not_le.mp hc)
      refine r_aload_n hV rfl rfl (pc' := 84) rfl ?_
      refine r_aload_n hV rfl rfl (pc' := 85) rfl ?_
      obtain ⟨g10, h⟩ := h
      refine tt_getP hV (tg := 0) (ci := 11) (kf := 6) rfl rfl (by decide) (hB _ _ rfl) rfl (by decide) (b := c) g10 (pc' := 88) rfl ?_
      refine tt_getI hV (tg := 0) (ci := 0) (kf := 4) rfl rfl (by decide) hcs.1 rfl (by decide) (pc' := 91) rfl ?_
      obtain ⟨v91, m91, h, hr⟩ := h
      refine tt_cv1I hV rfl rfl rfl (Wd_obj (hB _ _ rfl)) (Nat.le_of_ble_eq_true rfl) (Nat.le_of_ble_eq_true rfl) rfl hr (pc' := 94) rfl ?_
      refine tt_istore1 hV rfl rfl (pc' := 95) rfl ?_
      refine r_aload_n hV rfl rfl (pc' := 96) rfl ?_
      refine r_aload_n hV rfl rfl (pc' := 97) rfl ?_
      obtain ⟨g11, h⟩ := h
      refine tt_getP hV (tg := 0) (ci := 11) (kf := 6) rfl rfl (by decide) (hB _ _ rfl) rfl (by decide) (b := c) g11 (pc' := 100) rfl ?_
      refine tt_getI hV (tg := 0) (ci := 0) (kf := 4) rfl rfl (by decide) hcs.1 rfl (by decide) (pc' := 103) rfl ?_
      obtain ⟨v103, m103, h, hr⟩ := h
      refine tt_cv1I hV rfl rfl rfl (Wd_obj (hB _ _ rfl)) (Nat.le_of_ble_eq_true rfl) (Nat.le_of_ble_eq_true rfl) rfl hr (pc' := 106) rfl ?_
      refine tt_istore2 hV rfl rfl (pc' := 107) rfl ?_
      refine r_iload_n hV rfl rfl (pc' := 108) rfl ?_
      refine r_iload_n hV rfl rfl (pc' := 109) rfl ?_
      obtain ⟨g12, h⟩ := h
      obtain ⟨g13, h⟩ := h
      refine tt_icmp_eq hV rfl g12 g13 (pt := 121) (by decide) (pf := 112) rfl (fun hc => ?_) (fun hc => ?_)
      · replace h := h.1 hc
        refine r_aload_n hV rfl rfl (pc' := 122) rfl ?_
        refine tt_getR hV (tg := 6) (ci := 11) (kf := 8) rfl rfl (by decide) (hB _ _ rfl) rfl (by decide) (pc' := 125) rfl ?_
        refine tt_getI hV (tg := 0) (ci := 8) (kf := 7) rfl rfl (by decide) (hB _ _ rfl) rfl (by decide) (pc' := 128) rfl ?_
        refine tt_istore1 hV rfl rfl (pc' := 129) rfl ?_
        exact h
      · replace h := h.2 hc
        refine r_aload_n hV rfl rfl (pc' := 113) rfl ?_
        refine tt_getR hV (tg := 6) (ci := 11) (kf := 8) rfl rfl (by decide) (hB _ _ rfl) rfl (by decide) (pc' := 116) rfl ?_
        refine r_iload_n hV rfl rfl (pc' := 117) rfl ?_
        refine r_iload_n hV rfl rfl (pc' := 118) rfl ?_
        obtain ⟨m118, h, hr⟩ := h
        refine tt_cv2U hV rfl rfl rfl (Wd_obj (hB _ _ rfl)) (Nat.le_of_ble_eq_true rfl) (Nat.le_of_ble_eq_true rfl) rfl hr (pc' := 121) rfl ?_
        refine r_aload_n hV rfl rfl (pc' := 122) rfl ?_
        refine tt_getR hV (tg := 6) (ci := 11) (kf := 8) rfl rfl (by decide) (hB _ _ rfl) rfl (by decide) (pc' := 125) rfl ?_
        refine tt_getI hV (tg := 0) (ci := 8) (kf := 7) rfl rfl (by decide) (hB _ _ rfl) rfl (by decide) (pc' := 128) rfl ?_
        refine tt_istore1 hV rfl rfl (pc' := 129) rfl ?_
        exact h
  · replace h := h.2 (Int.not_le.mp hc)
    refine r_aload_n hV rfl rfl (pc' := 42) rfl ?_
    refine tt_getR hV (tg := 6) (ci := 11) (kf := 8) rfl rfl (by decide) (hB _ _ rfl) rfl (by decide) (pc' := 45) rfl ?_
    refine r_aload_n hV rfl rfl (pc' := 46) rfl ?_
    refine tt_getR hV (tg := 6) (ci := 11) (kf := 8) rfl rfl (by decide) (hB _ _ rfl) rfl (by decide) (pc' := 49) rfl ?_
    refine tt_getI hV (tg := 0) (ci := 8) (kf := 1) rfl rfl (by decide) (hB _ _ rfl) rfl (by decide) (pc' := 52) rfl ?_
    refine r_iload_n hV rfl rfl (pc' := 53) rfl ?_
    refine r_aload_n hV rfl rfl (pc' := 54) rfl ?_
    refine tt_iconst hV rfl (pc' := 55) rfl ?_
    obtain ⟨v55, m55, h, hr⟩ := h
    refine tt_cv1I hV rfl rfl rfl (Wd_obj (hB _ _ rfl)) (Nat.le_of_ble_eq_true rfl) (Nat.le_of_ble_eq_true rfl) rfl hr (pc' := 58) rfl ?_
    obtain ⟨v58, m58, h, hr⟩ := h
    refine tt_cs3I hV rfl rfl rfl (Nat.le_of_ble_eq_true rfl) (Nat.le_of_ble_eq_true rfl) rfl hr (pc' := 61) rfl ?_
    refine tt_putI hV (tg := 0) (ci := 8) (kf := 1) rfl rfl (Or.inl rfl) (hB _ _ rfl) rfl (by decide) rfl (pc' := 64) rfl ?_
    refine tt_iinc1 hV rfl rfl (pc' := 67) rfl ?_
    refine r_goto hV rfl (pc' := 30) (by decide) ?_
    exact h
theorem V_holdSession_129w {X : Cx} {d : Nat} {l1 : Int} {o2 : Option Int} {m : Mm} {Q : Mm → Prop} (hB : Bsh X.2.2.1) (h : ∃ c : Nat, cO c ∧ (m 0 6 = (c : Int)) ∧ K_lastRow X d c m (fun v134 m134 => (-2147483648 ≤ l1 ∧ l1 < 2147483648) ∧ (-2147483648 ≤ v134 ∧ v134 < 2147483648) ∧ (v134 ≤ l1 → Q m134) ∧ (l1 < v134 → V_goARow X d m134 (fun m141 => V_holdSession_129 X (d + 1) (l1 + 1) o2 m141 Q)))) : V_holdSession_129 X (d + 1) l1 o2 m Q := by
  unfold V_holdSession_129
  have hV : Clo (gP X.1 X.2.1) (d + 1) 162 3 false (Ru0 (gP X.1 X.2.1) (d + 1) 162 X.2.2.1 X.2.2.2 Q) := Ru0_clo (q := mI162) rfl
  refine r_iload_n hV rfl rfl (pc' := 130) rfl ?_
  refine r_aload_n hV rfl rfl (pc' := 131) rfl ?_
  obtain ⟨c, hc, h⟩ := h
  have hcs := csh_of hB hc
  obtain ⟨g14, h⟩ := h
  refine tt_getP hV (tg := 0) (ci := 11) (kf := 6) rfl rfl (by decide) (hB _ _ rfl) rfl (by decide) (b := c) g14 (pc' := 134) rfl ?_
  obtain ⟨v134, m134, h, hr⟩ := h
  refine tt_cv0I hV rfl rfl rfl (Wd_obj hcs.1) (Nat.le_of_ble_eq_true rfl) (Nat.le_of_ble_eq_true rfl) rfl hr (pc' := 137) rfl ?_
  obtain ⟨g15, h⟩ := h
  obtain ⟨g16, h⟩ := h
  refine tt_icmp_ge hV rfl g15 g16 (pt := 150) (by decide) (pf := 140) rfl (fun hc => ?_) (fun hc => ?_)
  · replace h := h.1 hc
    exact ru0_ret (q := mI162) rfl rfl rfl h
  · replace h := h.2 (Int.not_le.mp hc)
    refine r_aload_n hV rfl rfl (pc' := 141) rfl ?_
    obtain ⟨m141, h, hr⟩ := h
    refine tt_cv0U hV rfl rfl rfl (Wd_obj (hB _ _ rfl)) (Nat.le_of_ble_eq_true rfl) (Nat.le_of_ble_eq_true rfl) rfl hr (pc' := 144) rfl ?_
    refine tt_iinc1 hV rfl rfl (pc' := 147) rfl ?_
    refine r_goto hV rfl (pc' := 129) (by decide) ?_
    exact h
