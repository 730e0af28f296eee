/-! ===== what is wanted at a place ===== -/
theorem M_isRefusedw {X : Cx} {d : Nat} {x : Int} {m : Mm} {Q : Int → Mm → Prop} (hB : Bsh X.2.2.1) (h : (-2147483648 ≤ x ∧ x < 2147483648) ∧ (x = -1 → (x = -1 → Q 0 m) ∧ (x ≠ -1 → Q 1 m)) ∧ (x ≠ -1 → (0 ≤ x ∧ x < 5) ∧ (x = -1 → Q 0 (up m 102 x (m 102 x + 1))) ∧ (x ≠ -1 → Q 1 (up m 102 x (m 102 x + 1))))) : M_isRefused X d x m Q := by
  unfold M_isRefused
  have hV : Clo (gP X.1 X.2.1) d 229 2 false (Rq (gP X.1 X.2.1) d 229 X.2.2.1 X.2.2.2 Q) := Rq_clo (q := mI229) rfl
  refine r_iload_n hV rfl rfl (pc' := 1) rfl ?_
  refine tt_iconst hV rfl (pc' := 2) rfl ?_
  obtain ⟨g1, h⟩ := h
  refine tt_icmp_eq hV rfl g1 (by decide) (pt := 15) (by decide) (pf := 5) rfl (fun hc => ?_) (fun hc => ?_)
  · replace h := h.1 hc
    refine r_iload_n hV rfl rfl (pc' := 16) rfl ?_
    refine tt_iconst hV rfl (pc' := 17) rfl ?_
    refine tt_icmp_eq hV rfl g1 (by decide) (pt := 24) (by decide) (pf := 20) rfl (fun hc => ?_) (fun hc => ?_)
    · replace h := h.1 hc
      refine tt_iconst hV rfl (pc' := 25) rfl ?_
      exact rq_ret (q := mI229) rfl rfl rfl h
    · replace h := h.2 hc
      refine tt_iconst hV rfl (pc' := 21) rfl ?_
      refine r_goto hV rfl (pc' := 25) (by decide) ?_
      exact rq_ret (q := mI229) rfl rfl rfl h
  · replace h := h.2 hc
    refine r_aload_n hV rfl rfl (pc' := 6) rfl ?_
    refine tt_getR hV (tg := 6) (ci := 12) (kf := 31) rfl rfl (by decide) (hB _ _ rfl) rfl (by decide) (pc' := 9) rfl ?_
    refine r_iload_n hV rfl rfl (pc' := 10) rfl ?_
    refine r_dup2 hV rfl rfl rfl (pc' := 11) rfl ?_
    obtain ⟨g2, h⟩ := h
    refine q_iald hV rfl (hB _ _ rfl) (Nat.le_of_ble_eq_true rfl) rfl g2 (pc' := 12) rfl ?_
    refine tt_iconst hV rfl (pc' := 13) rfl ?_
    refine tt_iadd hV rfl (pc' := 14) rfl ?_
    refine q_iast hV rfl (hB _ _ rfl) (Nat.le_of_ble_eq_true rfl) rfl g2 (pc' := 15) rfl ?_
    refine r_iload_n hV rfl rfl (pc' := 16) rfl ?_
    refine tt_iconst hV rfl (pc' := 17) rfl ?_
    refine tt_icmp_eq hV rfl g1 (by decide) (pt := 24) (by decide) (pf := 20) rfl (fun hc => ?_) (fun hc => ?_)
    · replace h := h.1 hc
      refine tt_iconst hV rfl (pc' := 25) rfl ?_
      exact rq_ret (q := mI229) rfl rfl rfl h
    · replace h := h.2 hc
      refine tt_iconst hV rfl (pc' := 21) rfl ?_
      refine r_goto hV rfl (pc' := 25) (by decide) ?_
      exact rq_ret (q := mI229) rfl rfl rfl h
theorem M_leanw {X : Cx} {d : Nat} {x : Int} {y : Int} {m : Mm} {Q : Int → Mm → Prop} (hB : Bsh X.2.2.1) (h : M_isMember X d x m (fun v3 m3 => (-2147483648 ≤ v3 ∧ v3 < 2147483648) ∧ (v3 ≠ 0 → M_in X d y 0 2 m3 (fun v16 m16 => (-2147483648 ≤ v16 ∧ v16 < 2147483648) ∧ (v16 ≠ 0 → (0 ≤ x ∧ x < 205) ∧ (-2147483648 ≤ (m16 101 x) ∧ (m16 101 x) < 2147483648) ∧ (-2147483648 ≤ y ∧ y < 2147483648) ∧ (m16 101 x ≠ y → M_isRefused X d (-1) m16 (fun v43 m43 => (-2147483648 ≤ v43 ∧ v43 < 2147483648) ∧ (v43 = 0 → M_keep X d m43 (fun m52 => Q (m52 101 x) (up m52 101 x y))) ∧ (v43 ≠ 0 → Q (-1) m43))) ∧ (m16 101 x = y → M_isRefused X d 2 m16 (fun v43 m43 => (-2147483648 ≤ v43 ∧ v43 < 2147483648) ∧ (v43 = 0 → M_keep X d m43 (fun m52 => Q (m52 101 x) (up m52 101 x y))) ∧ (v43 ≠ 0 → Q (-1) m43)))) ∧ (v16 = 0 → M_isRefused X d 1 m16 (fun v43 m43 => (-2147483648 ≤ v43 ∧ v43 < 2147483648) ∧ (v43 = 0 → M_keep X d m43 (fun m52 => (0 ≤ x ∧ x < 205) ∧ Q (m52 101 x) (up m52 101 x y))) ∧ (v43 ≠ 0 → Q (-1) m43))))) ∧ (v3 = 0 → M_isRefused X d 0 m3 (fun v43 m43 => (-2147483648 ≤ v43 ∧ v43 < 2147483648) ∧ (v43 = 0 → M_keep X d m43 (fun m52 => (0 ≤ x ∧ x < 205) ∧ Q (m52 101 x) (up m52 101 x y))) ∧ (v43 ≠ 0 → Q (-1) m43))))) : M_lean X (d + 1) x y m Q := by
  unfold M_lean
  have hV : Clo (gP X.1 X.2.1) (d + 1) 230 4 false (Rq (gP X.1 X.2.1) (d + 1) 230 X.2.2.1 X.2.2.2 Q) := Rq_clo (q := mI230) rfl
  refine r_aload_n hV rfl rfl (pc' := 1) rfl ?_
  refine r_aload_n hV rfl rfl (pc' := 2) rfl ?_
  refine r_iload_n hV rfl rfl (pc' := 3) rfl ?_
  obtain ⟨v3, m3, h, hr⟩ := h
  refine tt_cv1I hV rfl rfl rfl (Wd_obj (hB _ _ rfl)) (Nat.le_of_ble_eq_true rfl) (Nat.le_of_ble_eq_true rfl) rfl hr (pc' := 6) rfl ?_
  obtain ⟨g1, h⟩ := h
  refine tt_if_ne hV rfl g1 (pt := 13) (by decide) (pf := 9) rfl (fun hc => ?_) (fun hc => ?_)
  · replace h := h.1 hc
    refine r_iload_n hV rfl rfl (pc' := 14) rfl ?_
    refine tt_iconst hV rfl (pc' := 15) rfl ?_
    refine tt_iconst hV rfl (pc' := 16) rfl ?_
    obtain ⟨v16, m16, h, hr⟩ := h
    refine tt_cs3I hV rfl rfl rfl (Nat.le_of_ble_eq_true rfl) (Nat.le_of_ble_eq_true rfl) rfl hr (pc' := 19) rfl ?_
    obtain ⟨g2, h⟩ := h
    refine tt_if_ne hV rfl g2 (pt := 26) (by decide) (pf := 22) rfl (fun hc => ?_) (fun hc => ?_)
    · replace h := h.1 hc
      refine r_aload_n hV rfl rfl (pc' := 27) rfl ?_
      refine tt_getR hV (tg := 6) (ci := 12) (kf := 30) rfl rfl (by decide) (hB _ _ rfl) rfl (by decide) (pc' := 30) rfl ?_
      refine tt_iconst hV rfl (pc' := 31) rfl ?_
      refine r_iload_n hV rfl rfl (pc' := 32) rfl ?_
      refine tt_iadd hV rfl (pc' := 33) rfl ?_
      refine vtI (y := x) (by clear h; omega) ?_
      obtain ⟨g3, h⟩ := h
      refine q_iald hV rfl (hB _ _ rfl) (Nat.le_of_ble_eq_true rfl) rfl g3 (pc' := 34) rfl ?_
      refine r_iload_n hV rfl rfl (pc' := 35) rfl ?_
      obtain ⟨g4, h⟩ := h
      obtain ⟨g5, h⟩ := h
      refine tt_icmp_ne hV rfl g4 g5 (pt := 42) (by decide) (pf := 38) rfl (fun hc => ?_) (fun hc => ?_)
      · replace h := h.1 hc
        refine tt_iconst hV rfl (pc' := 43) rfl ?_
        obtain ⟨v43, m43, h, hr⟩ := h
        refine tt_cv1I hV rfl rfl rfl (Wd_obj (hB _ _ rfl)) (Nat.le_of_ble_eq_true rfl) (Nat.le_of_ble_eq_true rfl) rfl hr (pc' := 46) rfl ?_
        obtain ⟨g6, h⟩ := h
        refine tt_if_eq hV rfl g6 (pt := 51) (by decide) (pf := 49) rfl (fun hc => ?_) (fun hc => ?_)
        · replace h := h.1 hc
          refine r_aload_n hV rfl rfl (pc' := 52) rfl ?_
          obtain ⟨m52, h, hr⟩ := h
          refine tt_cv0U hV rfl rfl rfl (Wd_obj (hB _ _ rfl)) (Nat.le_of_ble_eq_true rfl) (Nat.le_of_ble_eq_true rfl) rfl hr (pc' := 55) rfl ?_
          refine r_aload_n hV rfl rfl (pc' := 56) rfl ?_
          refine tt_getR hV (tg := 6) (ci := 12) (kf := 30) rfl rfl (by decide) (hB _ _ rfl) rfl (by decide) (pc' := 59) rfl ?_
          refine tt_iconst hV rfl (pc' := 60) rfl ?_
          refine r_iload_n hV rfl rfl (pc' := 61) rfl ?_
          refine tt_iadd hV rfl (pc' := 62) rfl ?_
          refine vtI (y := x) (by clear h; omega) ?_
          refine q_iald hV rfl (hB _ _ rfl) (Nat.le_of_ble_eq_true rfl) rfl g3 (pc' := 63) rfl ?_
          refine tt_istore3 hV rfl rfl (pc' := 64) rfl ?_
          refine r_aload_n hV rfl rfl (pc' := 65) rfl ?_
          refine tt_getR hV (tg := 6) (ci := 12) (kf := 30) rfl rfl (by decide) (hB _ _ rfl) rfl (by decide) (pc' := 68) rfl ?_
          refine tt_iconst hV rfl (pc' := 69) rfl ?_
          refine r_iload_n hV rfl rfl (pc' := 70) rfl ?_
          refine tt_iadd hV rfl (pc' := 71) rfl ?_
          refine vtI (y := x) (by clear h; omega) ?_
          refine r_iload_n hV rfl rfl (pc' := 72) rfl ?_
          refine q_iast hV rfl (hB _ _ rfl) (Nat.le_of_ble_eq_true rfl) rfl g3 (pc' := 73) rfl ?_
          refine r_iload_n hV rfl rfl (pc' := 74) rfl ?_
          exact rq_ret (q := mI230) rfl rfl rfl h
        · replace h := h.2 hc
          refine tt_iconst hV rfl (pc' := 50) rfl ?_
          exact rq_ret (q := mI230) rfl rfl rfl h
      · replace h := h.2 (Decidable.not_not.mp hc)
        refine tt_iconst hV rfl (pc' := 39) rfl ?_
        refine r_goto hV rfl (pc' := 43) (by decide) ?_
        obtain ⟨v43, m43, h, hr⟩ := h
        refine tt_cv1I hV rfl rfl rfl (Wd_obj (hB _ _ rfl)) (Nat.le_of_ble_eq_true rfl) (Nat.le_of_ble_eq_true rfl) rfl hr (pc' := 46) rfl ?_
        obtain ⟨g7, h⟩ := h
        refine tt_if_eq hV rfl g7 (pt := 51) (by decide) (pf := 49) rfl (fun hc => ?_) (fun hc => ?_)
        · replace h := h.1 hc
          refine r_aload_n hV rfl rfl (pc' := 52) rfl ?_
          obtain ⟨m52, h, hr⟩ := h
          refine tt_cv0U hV rfl rfl rfl (Wd_obj (hB _ _ rfl)) (Nat.le_of_ble_eq_true rfl) (Nat.le_of_ble_eq_true rfl) rfl hr (pc' := 55) rfl ?_
          refine r_aload_n hV rfl rfl (pc' := 56) rfl ?_
          refine tt_getR hV (tg := 6) (ci := 12) (kf := 30) rfl rfl (by decide) (hB _ _ rfl) rfl (by decide) (pc' := 59) rfl ?_
          refine tt_iconst hV rfl (pc' := 60) rfl ?_
          refine r_iload_n hV rfl rfl (pc' := 61) rfl ?_
          refine tt_iadd hV rfl (pc' := 62) rfl ?_
          refine vtI (y := x) (by clear h; omega) ?_
          refine q_iald hV rfl (hB _ _ rfl) (Nat.le_of_ble_eq_true rfl) rfl g3 (pc' := 63) rfl ?_
          refine tt_istore3 hV rfl rfl (pc' := 64) rfl ?_
          refine r_aload_n hV rfl rfl (pc' := 65) rfl ?_
          refine tt_getR hV (tg := 6) (ci := 12) (kf := 30) rfl rfl (by decide) (hB _ _ rfl) rfl (by decide) (pc' := 68) rfl ?_
          refine tt_iconst hV rfl (pc' := 69) rfl ?_
          refine r_iload_n hV rfl rfl (pc' := 70) rfl ?_
          refine tt_iadd hV rfl (pc' := 71) rfl ?_
          refine vtI (y := x) (by clear h; omega) ?_
          refine r_iload_n hV rfl rfl (pc' := 72) rfl ?_
          refine q_iast hV rfl (hB _ _ rfl) (Nat.le_of_ble_eq_true rfl) rfl g3 (pc' := 73) rfl ?_
          refine r_iload_n hV rfl rfl (pc' := 74) rfl ?_
          exact rq_ret (q := mI230) rfl rfl rfl h
        · replace h := h.2 hc
          refine tt_iconst hV rfl (pc' := 50) rfl ?_
          exact rq_ret (q := mI230) rfl rfl rfl h
    · replace h := h.2 (Decidable.not_not.mp hc)
      refine tt_iconst hV rfl (pc' := 23) rfl ?_
      refine r_goto hV rfl (pc' := 43) (by decide) ?_
      obtain ⟨v43, m43, h, hr⟩ := h
      refine tt_cv1I hV rfl rfl rfl (Wd_obj (hB _ _ rfl)) (Nat.le_of_ble_eq_true rfl) (Nat.le_of_ble_eq_true rfl) rfl hr (pc' := 46) rfl ?_
      obtain ⟨g8, h⟩ := h
      refine tt_if_eq hV rfl g8 (pt := 51) (by decide) (pf := 49) rfl (fun hc => ?_) (fun hc => ?_)
      · replace h := h.1 hc
        refine r_aload_n hV rfl rfl (pc' := 52) rfl ?_
        obtain ⟨m52, h, hr⟩ := h
        refine tt_cv0U hV rfl rfl rfl (Wd_obj (hB _ _ rfl)) (Nat.le_of_ble_eq_true rfl) (Nat.le_of_ble_eq_true rfl) rfl hr (pc' := 55) rfl ?_
        refine r_aload_n hV rfl rfl (pc' := 56) rfl ?_
        refine tt_getR hV (tg := 6) (ci := 12) (kf := 30) rfl rfl (by decide) (hB _ _ rfl) rfl (by decide) (pc' := 59) rfl ?_
        refine tt_iconst hV rfl (pc' := 60) rfl ?_
        refine r_iload_n hV rfl rfl (pc' := 61) rfl ?_
        refine tt_iadd hV rfl (pc' := 62) rfl ?_
        refine vtI (y := x) (by clear h; omega) ?_
        obtain ⟨g9, h⟩ := h
        refine q_iald hV rfl (hB _ _ rfl) (Nat.le_of_ble_eq_true rfl) rfl g9 (pc' := 63) rfl ?_
        refine tt_istore3 hV rfl rfl (pc' := 64) rfl ?_
        refine r_aload_n hV rfl rfl (pc' := 65) rfl ?_
        refine tt_getR hV (tg := 6) (ci := 12) (kf := 30) rfl rfl (by decide) (hB _ _ rfl) rfl (by decide) (pc' := 68) rfl ?_
        refine tt_iconst hV rfl (pc' := 69) rfl ?_
        refine r_iload_n hV rfl rfl (pc' := 70) rfl ?_
        refine tt_iadd hV rfl (pc' := 71) rfl ?_
        refine vtI (y := x) (by clear h; omega) ?_
        refine r_iload_n hV rfl rfl (pc' := 72) rfl ?_
        refine q_iast hV rfl (hB _ _ rfl) (Nat.le_of_ble_eq_true rfl) rfl g9 (pc' := 73) rfl ?_
        refine r_iload_n hV rfl rfl (pc' := 74) rfl ?_
        exact rq_ret (q := mI230) rfl rfl rfl h
      · replace h := h.2 hc
        refine tt_iconst hV rfl (pc' := 50) rfl ?_
        exact rq_ret (q := mI230) rfl rfl rfl h
  · replace h := h.2 (Decidable.not_not.mp hc)
    refine tt_iconst hV rfl (pc' := 10) rfl ?_
    refine r_goto hV rfl (pc' := 43) (by decide) ?_
    obtain ⟨v43, m43, h, hr⟩ := h
    refine tt_cv1I hV rfl rfl rfl (Wd_obj (hB _ _ rfl)) (Nat.le_of_ble_eq_true rfl) (Nat.le_of_ble_eq_true rfl) rfl hr (pc' := 46) rfl ?_
    obtain ⟨g10, h⟩ := h
    refine tt_if_eq hV rfl g10 (pt := 51) (by decide) (pf := 49) rfl (fun hc => ?_) (fun hc => ?_)
    · replace h := h.1 hc
      refine r_aload_n hV rfl rfl (pc' := 52) rfl ?_
      obtain ⟨m52, h, hr⟩ := h
      refine tt_cv0U hV rfl rfl rfl (Wd_obj (hB _ _ rfl)) (Nat.le_of_ble_eq_true rfl) (Nat.le_of_ble_eq_true rfl) rfl hr (pc' := 55) rfl ?_
      refine r_aload_n hV rfl rfl (pc' := 56) rfl ?_
      refine tt_getR hV (tg := 6) (ci := 12) (kf := 30) rfl rfl (by decide) (hB _ _ rfl) rfl (by decide) (pc' := 59) rfl ?_
      refine tt_iconst hV rfl (pc' := 60) rfl ?_
      refine r_iload_n hV rfl rfl (pc' := 61) rfl ?_
      refine tt_iadd hV rfl (pc' := 62) rfl ?_
      refine vtI (y := x) (by clear h; omega) ?_
      obtain ⟨g11, h⟩ := h
      refine q_iald hV rfl (hB _ _ rfl) (Nat.le_of_ble_eq_true rfl) rfl g11 (pc' := 63) rfl ?_
      refine tt_istore3 hV rfl rfl (pc' := 64) rfl ?_
      refine r_aload_n hV rfl rfl (pc' := 65) rfl ?_
      refine tt_getR hV (tg := 6) (ci := 12) (kf := 30) rfl rfl (by decide) (hB _ _ rfl) rfl (by decide) (pc' := 68) rfl ?_
      refine tt_iconst hV rfl (pc' := 69) rfl ?_
      refine r_iload_n hV rfl rfl (pc' := 70) rfl ?_
      refine tt_iadd hV rfl (pc' := 71) rfl ?_
      refine vtI (y := x) (by clear h; omega) ?_
      refine r_iload_n hV rfl rfl (pc' := 72) rfl ?_
      refine q_iast hV rfl (hB _ _ rfl) (Nat.le_of_ble_eq_true rfl) rfl g11 (pc' := 73) rfl ?_
      refine r_iload_n hV rfl rfl (pc' := 74) rfl ?_
      exact rq_ret (q := mI230) rfl rfl rfl h
    · replace h := h.2 hc
      refine tt_iconst hV rfl (pc' := 50) rfl ?_
      exact rq_ret (q := mI230) rfl rfl rfl h
theorem M_changeNoww {X : Cx} {d : Nat} {x : Int} {y : Int} {m : Mm} {Q : Mm → Prop} (hB : Bsh X.2.2.1) (h : (0 ≤ x + 12 ∧ x + 12 < 205) ∧ (0 ≤ y + 12 ∧ y + 12 < 205) ∧ Q (up (up m 101 (x + 12) (m 101 (y + 12))) 101 (y + 12) (m 101 (x + 12)))) : M_changeNow X d x y m Q := by
  unfold M_changeNow
  have hV : Clo (gP X.1 X.2.1) d 231 4 false (Ru0 (gP X.1 X.2.1) d 231 X.2.2.1 X.2.2.2 Q) := Ru0_clo (q := mI231) rfl
  refine r_aload_n hV rfl rfl (pc' := 1) rfl ?_
  refine tt_getR hV (tg := 6) (ci := 12) (kf := 30) rfl rfl (by decide) (hB _ _ rfl) rfl (by decide) (pc' := 4) rfl ?_
  refine tt_bipush hV rfl (by decide) (pc' := 6) rfl ?_
  refine r_iload_n hV rfl rfl (pc' := 7) rfl ?_
  refine tt_iadd hV rfl (pc' := 8) rfl ?_
  refine vtI (y := x + 12) (by clear h; omega) ?_
  obtain ⟨g1, h⟩ := h
  refine q_iald hV rfl (hB _ _ rfl) (Nat.le_of_ble_eq_true rfl) rfl g1 (pc' := 9) rfl ?_
  refine tt_istore3 hV rfl rfl (pc' := 10) rfl ?_
  refine r_aload_n hV rfl rfl (pc' := 11) rfl ?_
  refine tt_getR hV (tg := 6) (ci := 12) (kf := 30) rfl rfl (by decide) (hB _ _ rfl) rfl (by decide) (pc' := 14) rfl ?_
  refine tt_bipush hV rfl (by decide) (pc' := 16) rfl ?_
  refine r_iload_n hV rfl rfl (pc' := 17) rfl ?_
  refine tt_iadd hV rfl (pc' := 18) rfl ?_
  refine vtI (y := x + 12) (by clear h; omega) ?_
  refine r_aload_n hV rfl rfl (pc' := 19) rfl ?_
  refine tt_getR hV (tg := 6) (ci := 12) (kf := 30) rfl rfl (by decide) (hB _ _ rfl) rfl (by decide) (pc' := 22) rfl ?_
  refine tt_bipush hV rfl (by decide) (pc' := 24) rfl ?_
  refine r_iload_n hV rfl rfl (pc' := 25) rfl ?_
  refine tt_iadd hV rfl (pc' := 26) rfl ?_
  refine vtI (y := y + 12) (by clear h; omega) ?_
  obtain ⟨g2, h⟩ := h
  refine q_iald hV rfl (hB _ _ rfl) (Nat.le_of_ble_eq_true rfl) rfl g2 (pc' := 27) rfl ?_
  refine q_iast hV rfl (hB _ _ rfl) (Nat.le_of_ble_eq_true rfl) rfl g1 (pc' := 28) rfl ?_
  refine r_aload_n hV rfl rfl (pc' := 29) rfl ?_
  refine tt_getR hV (tg := 6) (ci := 12) (kf := 30) rfl rfl (by decide) (hB _ _ rfl) rfl (by decide) (pc' := 32) rfl ?_
  refine tt_bipush hV rfl (by decide) (pc' := 34) rfl ?_
  refine r_iload_n hV rfl rfl (pc' := 35) rfl ?_
  refine tt_iadd hV rfl (pc' := 36) rfl ?_
  refine vtI (y := y + 12) (by clear h; omega) ?_
  refine r_iload_n hV rfl rfl (pc' := 37) rfl ?_
  refine q_iast hV rfl (hB _ _ rfl) (Nat.le_of_ble_eq_true rfl) rfl g2 (pc' := 38) rfl ?_
  exact ru0_ret (q := mI231) rfl rfl rfl h
theorem M_changew {X : Cx} {d : Nat} {x : Int} {y : Int} {m : Mm} {Q : Int → Mm → Prop} (hB : Bsh X.2.2.1) (h : M_isMember X d x m (fun v3 m3 => (-2147483648 ≤ v3 ∧ v3 < 2147483648) ∧ (v3 = 0 → M_isRefused X d 0 m3 (fun v31 m31 => (-2147483648 ≤ v31 ∧ v31 < 2147483648) ∧ (v31 = 0 → M_keep X d m31 (fun m40 => M_changeNow X d x y m40 (fun m46 => (0 ≤ x + 12 ∧ x + 12 < 205) ∧ Q (m46 101 (x + 12)) m46))) ∧ (v31 ≠ 0 → Q (-1) m31))) ∧ (v3 ≠ 0 → M_isMember X d y m3 (fun v11 m11 => (-2147483648 ≤ v11 ∧ v11 < 2147483648) ∧ (v11 ≠ 0 → (-2147483648 ≤ x ∧ x < 2147483648) ∧ (-2147483648 ≤ y ∧ y < 2147483648) ∧ (x ≠ y → M_isRefused X d (-1) m11 (fun v31 m31 => (-2147483648 ≤ v31 ∧ v31 < 2147483648) ∧ (v31 = 0 → M_keep X d m31 (fun m40 => M_changeNow X d x y m40 (fun m46 => (0 ≤ x + 12 ∧ x + 12 < 205) ∧ Q (m46 101 (x + 12)) m46))) ∧ (v31 ≠ 0 → Q (-1) m31))) ∧ (x = y → M_isRefused X d 2 m11 (fun v31 m31 => (-2147483648 ≤ v31 ∧ v31 < 2147483648) ∧ (v31 = 0 → M_keep X d m31 (fun m40 => M_changeNow X d x y m40 (fun m46 => (0 ≤ x + 12 ∧ x + 12 < 205) ∧ Q (m46 101 (x + 12)) m46))) ∧ (v31 ≠ 0 → Q (-1) m31)))) ∧ (v11 = 0 → M_isRefused X d 0 m11 (fun v31 m31 => (-2147483648 ≤ v31 ∧ v31 < 2147483648) ∧ (v31 = 0 → M_keep X d m31 (fun m40 => M_changeNow X d x y m40 (fun m46 => (0 ≤ x + 12 ∧ x + 12 < 205) ∧ Q (m46 101 (x + 12)) m46))) ∧ (v31 ≠ 0 → Q (-1) m31))))))) : M_change X (d + 1) x y m Q := by
  unfold M_change
  have hV : Clo (gP X.1 X.2.1) (d + 1) 232 3 false (Rq (gP X.1 X.2.1) (d + 1) 232 X.2.2.1 X.2.2.2 Q) := Rq_clo (q := mI232) rfl
  refine r_aload_n hV rfl rfl (pc' := 1) rfl ?_
  refine r_aload_n hV rfl rfl (pc' := 2) rfl ?_
  refine r_iload_n hV rfl rfl (pc' := 3) rfl ?_
  obtain ⟨v3, m3, h, hr⟩ := h
  refine tt_cv1I hV rfl rfl rfl (Wd_obj (hB _ _ rfl)) (Nat.le_of_ble_eq_true rfl) (Nat.le_of_ble_eq_true rfl) rfl hr (pc' := 6) rfl ?_
  obtain ⟨g1, h⟩ := h
  refine tt_if_eq hV rfl g1 (pt := 17) (by decide) (pf := 9) rfl (fun hc => ?_) (fun hc => ?_)
  · replace h := h.1 hc
    refine tt_iconst hV rfl (pc' := 18) rfl ?_
    refine r_goto hV rfl (pc' := 31) (by decide) ?_
    obtain ⟨v31, m31, h, hr⟩ := h
    refine tt_cv1I hV rfl rfl rfl (Wd_obj (hB _ _ rfl)) (Nat.le_of_ble_eq_true rfl) (Nat.le_of_ble_eq_true rfl) rfl hr (pc' := 34) rfl ?_
    obtain ⟨g2, h⟩ := h
    refine tt_if_eq hV rfl g2 (pt := 39) (by decide) (pf := 37) rfl (fun hc => ?_) (fun hc => ?_)
    · replace h := h.1 hc
      refine r_aload_n hV rfl rfl (pc' := 40) rfl ?_
      obtain ⟨m40, h, hr⟩ := h
      refine tt_cv0U hV rfl rfl rfl (Wd_obj (hB _ _ rfl)) (Nat.le_of_ble_eq_true rfl) (Nat.le_of_ble_eq_true rfl) rfl hr (pc' := 43) rfl ?_
      refine r_aload_n hV rfl rfl (pc' := 44) rfl ?_
      refine r_iload_n hV rfl rfl (pc' := 45) rfl ?_
      refine r_iload_n hV rfl rfl (pc' := 46) rfl ?_
      obtain ⟨m46, h, hr⟩ := h
      refine tt_cv2U hV rfl rfl rfl (Wd_obj (hB _ _ rfl)) (Nat.le_of_ble_eq_true rfl) (Nat.le_of_ble_eq_true rfl) rfl hr (pc' := 49) rfl ?_
      refine r_aload_n hV rfl rfl (pc' := 50) rfl ?_
      refine tt_getR hV (tg := 6) (ci := 12) (kf := 30) rfl rfl (by decide) (hB _ _ rfl) rfl (by decide) (pc' := 53) rfl ?_
      refine tt_bipush hV rfl (by decide) (pc' := 55) rfl ?_
      refine r_iload_n hV rfl rfl (pc' := 56) rfl ?_
      refine tt_iadd hV rfl (pc' := 57) rfl ?_
      refine vtI (y := x + 12) (by clear h; omega) ?_
      obtain ⟨g3, h⟩ := h
      refine q_iald hV rfl (hB _ _ rfl) (Nat.le_of_ble_eq_true rfl) rfl g3 (pc' := 58) rfl ?_
      exact rq_ret (q := mI232) rfl rfl rfl h
    · replace h := h.2 hc
      refine tt_iconst hV rfl (pc' := 38) rfl ?_
      exact rq_ret (q := mI232) rfl rfl rfl h
  · replace h := h.2 hc
    refine r_aload_n hV rfl rfl (pc' := 10) rfl ?_
    refine r_iload_n hV rfl rfl (pc' := 11) rfl ?_
    obtain ⟨v11, m11, h, hr⟩ := h
    refine tt_cv1I hV rfl rfl rfl (Wd_obj (hB _ _ rfl)) (Nat.le_of_ble_eq_true rfl) (Nat.le_of_ble_eq_true rfl) rfl hr (pc' := 14) rfl ?_
    obtain ⟨g4, h⟩ := h
    refine tt_if_ne hV rfl g4 (pt := 21) (by decide) (pf := 17) rfl (fun hc => ?_) (fun hc => ?_)
    · replace h := h.1 hc
      refine r_iload_n hV rfl rfl (pc' := 22) rfl ?_
      refine r_iload_n hV rfl rfl (pc' := 23) rfl ?_
      obtain ⟨g5, h⟩ := h
      obtain ⟨g6, h⟩ := h
      refine tt_icmp_ne hV rfl g5 g6 (pt := 30) (by decide) (pf := 26) rfl (fun hc => ?_) (fun hc => ?_)
      · replace h := h.1 hc
        refine tt_iconst hV rfl (pc' := 31) rfl ?_
        obtain ⟨v31, m31, h, hr⟩ := h
        refine tt_cv1I hV rfl rfl rfl (Wd_obj (hB _ _ rfl)) (Nat.le_of_ble_eq_true rfl) (Nat.le_of_ble_eq_true rfl) rfl hr (pc' := 34) rfl ?_
        obtain ⟨g7, h⟩ := h
        refine tt_if_eq hV rfl g7 (pt := 39) (by decide) (pf := 37) rfl (fun hc => ?_) (fun hc => ?_)
        · replace h := h.1 hc
          refine r_aload_n hV rfl rfl (pc' := 40) rfl ?_
          obtain ⟨m40, h, hr⟩ := h
          refine tt_cv0U hV rfl rfl rfl (Wd_obj (hB _ _ rfl)) (Nat.le_of_ble_eq_true rfl) (Nat.le_of_ble_eq_true rfl) rfl hr (pc' := 43) rfl ?_
          refine r_aload_n hV rfl rfl (pc' := 44) rfl ?_
          refine r_iload_n hV rfl rfl (pc' := 45) rfl ?_
          refine r_iload_n hV rfl rfl (pc' := 46) rfl ?_
          obtain ⟨m46, h, hr⟩ := h
          refine tt_cv2U hV rfl rfl rfl (Wd_obj (hB _ _ rfl)) (Nat.le_of_ble_eq_true rfl) (Nat.le_of_ble_eq_true rfl) rfl hr (pc' := 49) rfl ?_
          refine r_aload_n hV rfl rfl (pc' := 50) rfl ?_
          refine tt_getR hV (tg := 6) (ci := 12) (kf := 30) rfl rfl (by decide) (hB _ _ rfl) rfl (by decide) (pc' := 53) rfl ?_
          refine tt_bipush hV rfl (by decide) (pc' := 55) rfl ?_
          refine r_iload_n hV rfl rfl (pc' := 56) rfl ?_
          refine tt_iadd hV rfl (pc' := 57) rfl ?_
          refine vtI (y := x + 12) (by clear h; omega) ?_
          obtain ⟨g8, h⟩ := h
          refine q_iald hV rfl (hB _ _ rfl) (Nat.le_of_ble_eq_true rfl) rfl g8 (pc' := 58) rfl ?_
          exact rq_ret (q := mI232) rfl rfl rfl h
        · replace h := h.2 hc
          refine tt_iconst hV rfl (pc' := 38) rfl ?_
          exact rq_ret (q := mI232) rfl rfl rfl h
      · replace h := h.2 (Decidable.not_not.mp hc)
        refine tt_iconst hV rfl (pc' := 27) rfl ?_
        refine r_goto hV rfl (pc' := 31) (by decide) ?_
        obtain ⟨v31, m31, h, hr⟩ := h
        refine tt_cv1I hV rfl rfl rfl (Wd_obj (hB _ _ rfl)) (Nat.le_of_ble_eq_true rfl) (Nat.le_of_ble_eq_true rfl) rfl hr (pc' := 34) rfl ?_
        obtain ⟨g9, h⟩ := h
        refine tt_if_eq hV rfl g9 (pt := 39) (by decide) (pf := 37) rfl (fun hc => ?_) (fun hc => ?_)
        · replace h := h.1 hc
          refine r_aload_n hV rfl rfl (pc' := 40) rfl ?_
          obtain ⟨m40, h, hr⟩ := h
          refine tt_cv0U hV rfl rfl rfl (Wd_obj (hB _ _ rfl)) (Nat.le_of_ble_eq_true rfl) (Nat.le_of_ble_eq_true rfl) rfl hr (pc' := 43) rfl ?_
          refine r_aload_n hV rfl rfl (pc' := 44) rfl ?_
          refine r_iload_n hV rfl rfl (pc' := 45) rfl ?_
          refine r_iload_n hV rfl rfl (pc' := 46) rfl ?_
          obtain ⟨m46, h, hr⟩ := h
          refine tt_cv2U hV rfl rfl rfl (Wd_obj (hB _ _ rfl)) (Nat.le_of_ble_eq_true rfl) (Nat.le_of_ble_eq_true rfl) rfl hr (pc' := 49) rfl ?_
          refine r_aload_n hV rfl rfl (pc' := 50) rfl ?_
          refine tt_getR hV (tg := 6) (ci := 12) (kf := 30) rfl rfl (by decide) (hB _ _ rfl) rfl (by decide) (pc' := 53) rfl ?_
          refine tt_bipush hV rfl (by decide) (pc' := 55) rfl ?_
          refine r_iload_n hV rfl rfl (pc' := 56) rfl ?_
          refine tt_iadd hV rfl (pc' := 57) rfl ?_
          refine vtI (y := x + 12) (by clear h; omega) ?_
          obtain ⟨g10, h⟩ := h
          refine q_iald hV rfl (hB _ _ rfl) (Nat.le_of_ble_eq_true rfl) rfl g10 (pc' := 58) rfl ?_
          exact rq_ret (q := mI232) rfl rfl rfl h
        · replace h := h.2 hc
          refine tt_iconst hV rfl (pc' := 38) rfl ?_
          exact rq_ret (q := mI232) rfl rfl rfl h
    · replace h := h.2 (Decidable.not_not.mp hc)
      refine tt_iconst hV rfl (pc' := 18) rfl ?_
      refine r_goto hV rfl (pc' := 31) (by decide) ?_
      obtain ⟨v31, m31, h, hr⟩ := h
      refine tt_cv1I hV rfl rfl rfl (Wd_obj (hB _ _ rfl)) (Nat.le_of_ble_eq_true rfl) (Nat.le_of_ble_eq_true rfl) rfl hr (pc' := 34) rfl ?_
      obtain ⟨g11, h⟩ := h
      refine tt_if_eq hV rfl g11 (pt := 39) (by decide) (pf := 37) rfl (fun hc => ?_) (fun hc => ?_)
      · replace h := h.1 hc
        refine r_aload_n hV rfl rfl (pc' := 40) rfl ?_
        obtain ⟨m40, h, hr⟩ := h
        refine tt_cv0U hV rfl rfl rfl (Wd_obj (hB _ _ rfl)) (Nat.le_of_ble_eq_true rfl) (Nat.le_of_ble_eq_true rfl) rfl hr (pc' := 43) rfl ?_
        refine r_aload_n hV rfl rfl (pc' := 44) rfl ?_
        refine r_iload_n hV rfl rfl (pc' := 45) rfl ?_
        refine r_iload_n hV rfl rfl (pc' := 46) rfl ?_
        obtain ⟨m46, h, hr⟩ := h
        refine tt_cv2U hV rfl rfl rfl (Wd_obj (hB _ _ rfl)) (Nat.le_of_ble_eq_true rfl) (Nat.le_of_ble_eq_true rfl) rfl hr (pc' := 49) rfl ?_
        refine r_aload_n hV rfl rfl (pc' := 50) rfl ?_
        refine tt_getR hV (tg := 6) (ci := 12) (kf := 30) rfl rfl (by decide) (hB _ _ rfl) rfl (by decide) (pc' := 53) rfl ?_
        refine tt_bipush hV rfl (by decide) (pc' := 55) rfl ?_
        refine r_iload_n hV rfl rfl (pc' := 56) rfl ?_
        refine tt_iadd hV rfl (pc' := 57) rfl ?_
        refine vtI (y := x + 12) (by clear h; omega) ?_
        obtain ⟨g12, h⟩ := h
        refine q_iald hV rfl (hB _ _ rfl) (Nat.le_of_ble_eq_true rfl) rfl g12 (pc' := 58) rfl ?_
        exact rq_ret (q := mI232) rfl rfl rfl h
      · replace h := h.2 hc
        refine tt_iconst hV rfl (pc' := 38) rfl ?_
        exact rq_ret (q := mI232) rfl rfl rfl h
theorem M_heelw {X : Cx} {d : Nat} {x : Int} {m : Mm} {Q : Int → Mm → Prop} (hB : Bsh X.2.2.1) (h : M_isMember X d x m (fun v3 m3 => (-2147483648 ≤ v3 ∧ v3 < 2147483648) ∧ (v3 ≠ 0 → (0 ≤ x + 6 ∧ x + 6 < 205) ∧ (-2147483648 ≤ (m3 101 (x + 6)) ∧ (m3 101 (x + 6)) < 2147483648) ∧ (m3 101 (x + 6) ≠ 9 → M_isRefused X d (-1) m3 (fun v32 m32 => (-2147483648 ≤ v32 ∧ v32 < 2147483648) ∧ (v32 = 0 → M_keep X d m32 (fun m41 => Q (m41 101 (x + 6) + 1) (up m41 101 (x + 6) (m41 101 (x + 6) + 1)))) ∧ (v32 ≠ 0 → Q (-1) m32))) ∧ (m3 101 (x + 6) = 9 → M_isRefused X d 2 m3 (fun v32 m32 => (-2147483648 ≤ v32 ∧ v32 < 2147483648) ∧ (v32 = 0 → M_keep X d m32 (fun m41 => Q (m41 101 (x + 6) + 1) (up m41 101 (x + 6) (m41 101 (x + 6) + 1)))) ∧ (v32 ≠ 0 → Q (-1) m32)))) ∧ (v3 = 0 → M_isRefused X d 0 m3 (fun v32 m32 => (-2147483648 ≤ v32 ∧ v32 < 2147483648) ∧ (v32 = 0 → M_keep X d m32 (fun m41 => (0 ≤ x + 6 ∧ x + 6 < 205) ∧ Q (m41 101 (x + 6) + 1) (up m41 101 (x + 6) (m41 101 (x + 6) + 1)))) ∧ (v32 ≠ 0 → Q (-1) m32))))) : M_heel X (d + 1) x m Q := by
  unfold M_heel
  have hV : Clo (gP X.1 X.2.1) (d + 1) 233 2 false (Rq (gP X.1 X.2.1) (d + 1) 233 X.2.2.1 X.2.2.2 Q) := Rq_clo (q := mI233) rfl
  refine r_aload_n hV rfl rfl (pc' := 1) rfl ?_
  refine r_aload_n hV rfl rfl (pc' := 2) rfl ?_
  refine r_iload_n hV rfl rfl (pc' := 3) rfl ?_
  obtain ⟨v3, m3, h, hr⟩ := h
  refine tt_cv1I hV rfl rfl rfl (Wd_obj (hB _ _ rfl)) (Nat.le_of_ble_eq_true rfl) (Nat.le_of_ble_eq_true rfl) rfl hr (pc' := 6) rfl ?_
  obtain ⟨g1, h⟩ := h
  refine tt_if_ne hV rfl g1 (pt := 13) (by decide) (pf := 9) rfl (fun hc => ?_) (fun hc => ?_)
  · replace h := h.1 hc
    refine r_aload_n hV rfl rfl (pc' := 14) rfl ?_
    refine tt_getR hV (tg := 6) (ci := 12) (kf := 30) rfl rfl (by decide) (hB _ _ rfl) rfl (by decide) (pc' := 17) rfl ?_
    refine tt_bipush hV rfl (by decide) (pc' := 19) rfl ?_
    refine r_iload_n hV rfl rfl (pc' := 20) rfl ?_
    refine tt_iadd hV rfl (pc' := 21) rfl ?_
    refine vtI (y := x + 6) (by clear h; omega) ?_
    obtain ⟨g2, h⟩ := h
    refine q_iald hV rfl (hB _ _ rfl) (Nat.le_of_ble_eq_true rfl) rfl g2 (pc' := 22) rfl ?_
    refine tt_bipush hV rfl (by decide) (pc' := 24) rfl ?_
    obtain ⟨g3, h⟩ := h
    refine tt_icmp_ne hV rfl g3 (by decide) (pt := 31) (by decide) (pf := 27) rfl (fun hc => ?_) (fun hc => ?_)
    · replace h := h.1 hc
      refine tt_iconst hV rfl (pc' := 32) rfl ?_
      obtain ⟨v32, m32, h, hr⟩ := h
      refine tt_cv1I hV rfl rfl rfl (Wd_obj (hB _ _ rfl)) (Nat.le_of_ble_eq_true rfl) (Nat.le_of_ble_eq_true rfl) rfl hr (pc' := 35) rfl ?_
      obtain ⟨g4, h⟩ := h
      refine tt_if_eq hV rfl g4 (pt := 40) (by decide) (pf := 38) rfl (fun hc => ?_) (fun hc => ?_)
      · replace h := h.1 hc
        refine r_aload_n hV rfl rfl (pc' := 41) rfl ?_
        obtain ⟨m41, h, hr⟩ := h
        refine tt_cv0U hV rfl rfl rfl (Wd_obj (hB _ _ rfl)) (Nat.le_of_ble_eq_true rfl) (Nat.le_of_ble_eq_true rfl) rfl hr (pc' := 44) rfl ?_
        refine r_aload_n hV rfl rfl (pc' := 45) rfl ?_
        refine tt_getR hV (tg := 6) (ci := 12) (kf := 30) rfl rfl (by decide) (hB _ _ rfl) rfl (by decide) (pc' := 48) rfl ?_
        refine tt_bipush hV rfl (by decide) (pc' := 50) rfl ?_
        refine r_iload_n hV rfl rfl (pc' := 51) rfl ?_
        refine tt_iadd hV rfl (pc' := 52) rfl ?_
        refine vtI (y := x + 6) (by clear h; omega) ?_
        refine r_dup2 hV rfl rfl rfl (pc' := 53) rfl ?_
        refine q_iald hV rfl (hB _ _ rfl) (Nat.le_of_ble_eq_true rfl) rfl g2 (pc' := 54) rfl ?_
        refine tt_iconst hV rfl (pc' := 55) rfl ?_
        refine tt_iadd hV rfl (pc' := 56) rfl ?_
        refine q_iast hV rfl (hB _ _ rfl) (Nat.le_of_ble_eq_true rfl) rfl g2 (pc' := 57) rfl ?_
        refine r_aload_n hV rfl rfl (pc' := 58) rfl ?_
        refine tt_getR hV (tg := 6) (ci := 12) (kf := 30) rfl rfl (by decide) (hB _ _ rfl) rfl (by decide) (pc' := 61) rfl ?_
        refine tt_bipush hV rfl (by decide) (pc' := 63) rfl ?_
        refine r_iload_n hV rfl rfl (pc' := 64) rfl ?_
        refine tt_iadd hV rfl (pc' := 65) rfl ?_
        refine vtI (y := x + 6) (by clear h; omega) ?_
        refine q_iald hV rfl (hB _ _ rfl) (Nat.le_of_ble_eq_true rfl) rfl g2 (pc' := 66) rfl ?_
        refine vtI (y := m41 101 (x + 6) + 1) (up_same _ _ _ _) ?_
        exact rq_ret (q := mI233) rfl rfl rfl h
      · replace h := h.2 hc
        refine tt_iconst hV rfl (pc' := 39) rfl ?_
        exact rq_ret (q := mI233) rfl rfl rfl h
    · replace h := h.2 (Decidable.not_not.mp hc)
      refine tt_iconst hV rfl (pc' := 28) rfl ?_
      refine r_goto hV rfl (pc' := 32) (by decide) ?_
      obtain ⟨v32, m32, h, hr⟩ := h
      refine tt_cv1I hV rfl rfl rfl (Wd_obj (hB _ _ rfl)) (Nat.le_of_ble_eq_true rfl) (Nat.le_of_ble_eq_true rfl) rfl hr (pc' := 35) rfl ?_
      obtain ⟨g5, h⟩ := h
      refine tt_if_eq hV rfl g5 (pt := 40) (by decide) (pf := 38) rfl (fun hc => ?_) (fun hc => ?_)
      · replace h := h.1 hc
        refine r_aload_n hV rfl rfl (pc' := 41) rfl ?_
        obtain ⟨m41, h, hr⟩ := h
        refine tt_cv0U hV rfl rfl rfl (Wd_obj (hB _ _ rfl)) (Nat.le_of_ble_eq_true rfl) (Nat.le_of_ble_eq_true rfl) rfl hr (pc' := 44) rfl ?_
        refine r_aload_n hV rfl rfl (pc' := 45) rfl ?_
        refine tt_getR hV (tg := 6) (ci := 12) (kf := 30) rfl rfl (by decide) (hB _ _ rfl) rfl (by decide) (pc' := 48) rfl ?_
        refine tt_bipush hV rfl (by decide) (pc' := 50) rfl ?_
        refine r_iload_n hV rfl rfl (pc' := 51) rfl ?_
        refine tt_iadd hV rfl (pc' := 52) rfl ?_
        refine vtI (y := x + 6) (by clear h; omega) ?_
        refine r_dup2 hV rfl rfl rfl (pc' := 53) rfl ?_
        refine q_iald hV rfl (hB _ _ rfl) (Nat.le_of_ble_eq_true rfl) rfl g2 (pc' := 54) rfl ?_
        refine tt_iconst hV rfl (pc' := 55) rfl ?_
        refine tt_iadd hV rfl (pc' := 56) rfl ?_
        refine q_iast hV rfl (hB _ _ rfl) (Nat.le_of_ble_eq_true rfl) rfl g2 (pc' := 57) rfl ?_
        refine r_aload_n hV rfl rfl (pc' := 58) rfl ?_
        refine tt_getR hV (tg := 6) (ci := 12) (kf := 30) rfl rfl (by decide) (hB _ _ rfl) rfl (by decide) (pc' := 61) rfl ?_
        refine tt_bipush hV rfl (by decide) (pc' := 63) rfl ?_
        refine r_iload_n hV rfl rfl (pc' := 64) rfl ?_
        refine tt_iadd hV rfl (pc' := 65) rfl ?_
        refine vtI (y := x + 6) (by clear h; omega) ?_
        refine q_iald hV rfl (hB _ _ rfl) (Nat.le_of_ble_eq_true rfl) rfl g2 (pc' := 66) rfl ?_
        refine vtI (y := m41 101 (x + 6) + 1) (up_same _ _ _ _) ?_
        exact rq_ret (q := mI233) rfl rfl rfl h
      · replace h := h.2 hc
        refine tt_iconst hV rfl (pc' := 39) rfl ?_
        exact rq_ret (q := mI233) rfl rfl rfl h
  · replace h := h.2 (Decidable.not_not.mp hc)
    refine tt_iconst hV rfl (pc' := 10) rfl ?_
    refine r_goto hV rfl (pc' := 32) (by decide) ?_
    obtain ⟨v32, m32, h, hr⟩ := h
    refine tt_cv1I hV rfl rfl rfl (Wd_obj (hB _ _ rfl)) (Nat.le_of_ble_eq_true rfl) (Nat.le_of_ble_eq_true rfl) rfl hr (pc' := 35) rfl ?_
    obtain ⟨g6, h⟩ := h
    refine tt_if_eq hV rfl g6 (pt := 40) (by decide) (pf := 38) rfl (fun hc => ?_) (fun hc => ?_)
    · replace h := h.1 hc
      refine r_aload_n hV rfl rfl (pc' := 41) rfl ?_
      obtain ⟨m41, h, hr⟩ := h
      refine tt_cv0U hV rfl rfl rfl (Wd_obj (hB _ _ rfl)) (Nat.le_of_ble_eq_true rfl) (Nat.le_of_ble_eq_true rfl) rfl hr (pc' := 44) rfl ?_
      refine r_aload_n hV rfl rfl (pc' := 45) rfl ?_
      refine tt_getR hV (tg := 6) (ci := 12) (kf := 30) rfl rfl (by decide) (hB _ _ rfl) rfl (by decide) (pc' := 48) rfl ?_
      refine tt_bipush hV rfl (by decide) (pc' := 50) rfl ?_
      refine r_iload_n hV rfl rfl (pc' := 51) rfl ?_
      refine tt_iadd hV rfl (pc' := 52) rfl ?_
      refine vtI (y := x + 6) (by clear h; omega) ?_
      refine r_dup2 hV rfl rfl rfl (pc' := 53) rfl ?_
      obtain ⟨g7, h⟩ := h
      refine q_iald hV rfl (hB _ _ rfl) (Nat.le_of_ble_eq_true rfl) rfl g7 (pc' := 54) rfl ?_
      refine tt_iconst hV rfl (pc' := 55) rfl ?_
      refine tt_iadd hV rfl (pc' := 56) rfl ?_
      refine q_iast hV rfl (hB _ _ rfl) (Nat.le_of_ble_eq_true rfl) rfl g7 (pc' := 57) rfl ?_
      refine r_aload_n hV rfl rfl (pc' := 58) rfl ?_
      refine tt_getR hV (tg := 6) (ci := 12) (kf := 30) rfl rfl (by decide) (hB _ _ rfl) rfl (by decide) (pc' := 61) rfl ?_
      refine tt_bipush hV rfl (by decide) (pc' := 63) rfl ?_
      refine r_iload_n hV rfl rfl (pc' := 64) rfl ?_
      refine tt_iadd hV rfl (pc' := 65) rfl ?_
      refine vtI (y := x + 6) (by clear h; omega) ?_
      refine q_iald hV rfl (hB _ _ rfl) (Nat.le_of_ble_eq_true rfl) rfl g7 (pc' := 66) rfl ?_
      refine vtI (y := m41 101 (x + 6) + 1) (up_same _ _ _ _) ?_
      exact rq_ret (q := mI233) rfl rfl rfl h
    · replace h := h.2 hc
      refine tt_iconst hV rfl (pc' := 39) rfl ?_
      exact rq_ret (q := mI233) rfl rfl rfl h
theorem M_streww {X : Cx} {d : Nat} {x : Int} {m : Mm} {Q : Int → Mm → Prop} (hB : Bsh X.2.2.1) (h : M_isBump X d x m (fun v3 m3 => (-2147483648 ≤ v3 ∧ v3 < 2147483648) ∧ (v3 ≠ 0 → M_has X d (m3 101 19) x m3 (fun v21 m21 => (-2147483648 ≤ v21 ∧ v21 < 2147483648) ∧ (v21 = 0 → (-2147483648 ≤ (m21 101 20) ∧ (m21 101 20) < 2147483648) ∧ (m21 101 20 ≠ 0 → M_isRefused X d (-1) m21 (fun v46 m46 => (-2147483648 ≤ v46 ∧ v46 < 2147483648) ∧ (v46 = 0 → M_keep X d m46 (fun m55 => Q (m55 101 20 - 1) (up (up m55 101 19 ((iO (m55 101 19) ((iSl 1 x))))) 101 20 (m55 101 20 - 1)))) ∧ (v46 ≠ 0 → Q (-1) m46))) ∧ (m21 101 20 = 0 → M_isRefused X d 3 m21 (fun v46 m46 => (-2147483648 ≤ v46 ∧ v46 < 2147483648) ∧ (v46 = 0 → M_keep X d m46 (fun m55 => Q (m55 101 20 - 1) (up (up m55 101 19 ((iO (m55 101 19) ((iSl 1 x))))) 101 20 (m55 101 20 - 1)))) ∧ (v46 ≠ 0 → Q (-1) m46)))) ∧ (v21 ≠ 0 → M_isRefused X d 2 m21 (fun v46 m46 => (-2147483648 ≤ v46 ∧ v46 < 2147483648) ∧ (v46 = 0 → M_keep X d m46 (fun m55 => Q (m55 101 20 - 1) (up (up m55 101 19 ((iO (m55 101 19) ((iSl 1 x))))) 101 20 (m55 101 20 - 1)))) ∧ (v46 ≠ 0 → Q (-1) m46))))) ∧ (v3 = 0 → M_isRefused X d 0 m3 (fun v46 m46 => (-2147483648 ≤ v46 ∧ v46 < 2147483648) ∧ (v46 = 0 → M_keep X d m46 (fun m55 => Q (m55 101 20 - 1) (up (up m55 101 19 ((iO (m55 101 19) ((iSl 1 x))))) 101 20 (m55 101 20 - 1)))) ∧ (v46 ≠ 0 → Q (-1) m46))))) : M_strew X (d + 1) x m Q := by
  unfold M_strew
  have hV : Clo (gP X.1 X.2.1) (d + 1) 234 2 false (Rq (gP X.1 X.2.1) (d + 1) 234 X.2.2.1 X.2.2.2 Q) := Rq_clo (q := mI234) rfl
  refine r_aload_n hV rfl rfl (pc' := 1) rfl ?_
  refine r_aload_n hV rfl rfl (pc' := 2) rfl ?_
  refine r_iload_n hV rfl rfl (pc' := 3) rfl ?_
  obtain ⟨v3, m3, h, hr⟩ := h
  refine tt_cv1I hV rfl rfl rfl (Wd_obj (hB _ _ rfl)) (Nat.le_of_ble_eq_true rfl) (Nat.le_of_ble_eq_true rfl) rfl hr (pc' := 6) rfl ?_
  obtain ⟨g1, h⟩ := h
  refine tt_if_ne hV rfl g1 (pt := 13) (by decide) (pf := 9) rfl (fun hc => ?_) (fun hc => ?_)
  · replace h := h.1 hc
    refine r_aload_n hV rfl rfl (pc' := 14) rfl ?_
    refine tt_getR hV (tg := 6) (ci := 12) (kf := 30) rfl rfl (by decide) (hB _ _ rfl) rfl (by decide) (pc' := 17) rfl ?_
    refine tt_bipush hV rfl (by decide) (pc' := 19) rfl ?_
    refine q_iald hV rfl (hB _ _ rfl) (Nat.le_of_ble_eq_true rfl) rfl (by decide) (pc' := 20) rfl ?_
    refine r_iload_n hV rfl rfl (pc' := 21) rfl ?_
    obtain ⟨v21, m21, h, hr⟩ := h
    refine tt_cs2I hV rfl rfl rfl (Nat.le_of_ble_eq_true rfl) (Nat.le_of_ble_eq_true rfl) rfl hr (pc' := 24) rfl ?_
    obtain ⟨g2, h⟩ := h
    refine tt_if_eq hV rfl g2 (pt := 31) (by decide) (pf := 27) rfl (fun hc => ?_) (fun hc => ?_)
    · replace h := h.1 hc
      refine r_aload_n hV rfl rfl (pc' := 32) rfl ?_
      refine tt_getR hV (tg := 6) (ci := 12) (kf := 30) rfl rfl (by decide) (hB _ _ rfl) rfl (by decide) (pc' := 35) rfl ?_
      refine tt_bipush hV rfl (by decide) (pc' := 37) rfl ?_
      refine q_iald hV rfl (hB _ _ rfl) (Nat.le_of_ble_eq_true rfl) rfl (by decide) (pc' := 38) rfl ?_
      obtain ⟨g3, h⟩ := h
      refine tt_if_ne hV rfl g3 (pt := 45) (by decide) (pf := 41) rfl (fun hc => ?_) (fun hc => ?_)
      · replace h := h.1 hc
        refine tt_iconst hV rfl (pc' := 46) rfl ?_
        obtain ⟨v46, m46, h, hr⟩ := h
        refine tt_cv1I hV rfl rfl rfl (Wd_obj (hB _ _ rfl)) (Nat.le_of_ble_eq_true rfl) (Nat.le_of_ble_eq_true rfl) rfl hr (pc' := 49) rfl ?_
        obtain ⟨g4, h⟩ := h
        refine tt_if_eq hV rfl g4 (pt := 54) (by decide) (pf := 52) rfl (fun hc => ?_) (fun hc => ?_)
        · replace h := h.1 hc
          refine r_aload_n hV rfl rfl (pc' := 55) rfl ?_
          obtain ⟨m55, h, hr⟩ := h
          refine tt_cv0U hV rfl rfl rfl (Wd_obj (hB _ _ rfl)) (Nat.le_of_ble_eq_true rfl) (Nat.le_of_ble_eq_true rfl) rfl hr (pc' := 58) rfl ?_
          refine r_aload_n hV rfl rfl (pc' := 59) rfl ?_
          refine tt_getR hV (tg := 6) (ci := 12) (kf := 30) rfl rfl (by decide) (hB _ _ rfl) rfl (by decide) (pc' := 62) rfl ?_
          refine tt_bipush hV rfl (by decide) (pc' := 64) rfl ?_
          refine r_dup2 hV rfl rfl rfl (pc' := 65) rfl ?_
          refine q_iald hV rfl (hB _ _ rfl) (Nat.le_of_ble_eq_true rfl) rfl (by decide) (pc' := 66) rfl ?_
          refine tt_iconst hV rfl (pc' := 67) rfl ?_
          refine r_iload_n hV rfl rfl (pc' := 68) rfl ?_
          refine tt_ishl hV rfl (pc' := 69) rfl ?_
          refine tt_ior hV rfl (pc' := 70) rfl ?_
          refine q_iast hV rfl (hB _ _ rfl) (Nat.le_of_ble_eq_true rfl) rfl (by decide) (pc' := 71) rfl ?_
          refine r_aload_n hV rfl rfl (pc' := 72) rfl ?_
          refine tt_getR hV (tg := 6) (ci := 12) (kf := 30) rfl rfl (by decide) (hB _ _ rfl) rfl (by decide) (pc' := 75) rfl ?_
          refine tt_bipush hV rfl (by decide) (pc' := 77) rfl ?_
          refine r_dup2 hV rfl rfl rfl (pc' := 78) rfl ?_
          refine q_iald hV rfl (hB _ _ rfl) (Nat.le_of_ble_eq_true rfl) rfl (by decide) (pc' := 79) rfl ?_
          refine vtI (y := m55 101 20) (up_ne (Or.inr (by decide))) ?_
          refine tt_iconst hV rfl (pc' := 80) rfl ?_
          refine tt_isub hV rfl (pc' := 81) rfl ?_
          refine q_iast hV rfl (hB _ _ rfl) (Nat.le_of_ble_eq_true rfl) rfl (by decide) (pc' := 82) rfl ?_
          refine r_aload_n hV rfl rfl (pc' := 83) rfl ?_
          refine tt_getR hV (tg := 6) (ci := 12) (kf := 30) rfl rfl (by decide) (hB _ _ rfl) rfl (by decide) (pc' := 86) rfl ?_
          refine tt_bipush hV rfl (by decide) (pc' := 88) rfl ?_
          refine q_iald hV rfl (hB _ _ rfl) (Nat.le_of_ble_eq_true rfl) rfl (by decide) (pc' := 89) rfl ?_
          refine vtI (y := m55 101 20 - 1) (up_same _ _ _ _) ?_
          exact rq_ret (q := mI234) rfl rfl rfl h
        · replace h := h.2 hc
          refine tt_iconst hV rfl (pc' := 53) rfl ?_
          exact rq_ret (q := mI234) rfl rfl rfl h
      · replace h := h.2 (Decidable.not_not.mp hc)
        refine tt_iconst hV rfl (pc' := 42) rfl ?_
        refine r_goto hV rfl (pc' := 46) (by decide) ?_
        obtain ⟨v46, m46, h, hr⟩ := h
        refine tt_cv1I hV rfl rfl rfl (Wd_obj (hB _ _ rfl)) (Nat.le_of_ble_eq_true rfl) (Nat.le_of_ble_eq_true rfl) rfl hr (pc' := 49) rfl ?_
        obtain ⟨g5, h⟩ := h
        refine tt_if_eq hV rfl g5 (pt := 54) (by decide) (pf := 52) rfl (fun hc => ?_) (fun hc => ?_)
        · replace h := h.1 hc
          refine r_aload_n hV rfl rfl (pc' := 55) rfl ?_
          obtain ⟨m55, h, hr⟩ := h
          refine tt_cv0U hV rfl rfl rfl (Wd_obj (hB _ _ rfl)) (Nat.le_of_ble_eq_true rfl) (Nat.le_of_ble_eq_true rfl) rfl hr (pc' := 58) rfl ?_
          refine r_aload_n hV rfl rfl (pc' := 59) rfl ?_
          refine tt_getR hV (tg := 6) (ci := 12) (kf := 30) rfl rfl (by decide) (hB _ _ rfl) rfl (by decide) (pc' := 62) rfl ?_
          refine tt_bipush hV rfl (by decide) (pc' := 64) rfl ?_
          refine r_dup2 hV rfl rfl rfl (pc' := 65) rfl ?_
          refine q_iald hV rfl (hB _ _ rfl) (Nat.le_of_ble_eq_true rfl) rfl (by decide) (pc' := 66) rfl ?_
          refine tt_iconst hV rfl (pc' := 67) rfl ?_
          refine r_iload_n hV rfl rfl (pc' := 68) rfl ?_
          refine tt_ishl hV rfl (pc' := 69) rfl ?_
          refine tt_ior hV rfl (pc' := 70) rfl ?_
          refine q_iast hV rfl (hB _ _ rfl) (Nat.le_of_ble_eq_true rfl) rfl (by decide) (pc' := 71) rfl ?_
          refine r_aload_n hV rfl rfl (pc' := 72) rfl ?_
          refine tt_getR hV (tg := 6) (ci := 12) (kf := 30) rfl rfl (by decide) (hB _ _ rfl) rfl (by decide) (pc' := 75) rfl ?_
          refine tt_bipush hV rfl (by decide) (pc' := 77) rfl ?_
          refine r_dup2 hV rfl rfl rfl (pc' := 78) rfl ?_
          refine q_iald hV rfl (hB _ _ rfl) (Nat.le_of_ble_eq_true rfl) rfl (by decide) (pc' := 79) rfl ?_
          refine vtI (y := m55 101 20) (up_ne (Or.inr (by decide))) ?_
          refine tt_iconst hV rfl (pc' := 80) rfl ?_
          refine tt_isub hV rfl (pc' := 81) rfl ?_
          refine q_iast hV rfl (hB _ _ rfl) (Nat.le_of_ble_eq_true rfl) rfl (by decide) (pc' := 82) rfl ?_
          refine r_aload_n hV rfl rfl (pc' := 83) rfl ?_
          refine tt_getR hV (tg := 6) (ci := 12) (kf := 30) rfl rfl (by decide) (hB _ _ rfl) rfl (by decide) (pc' := 86) rfl ?_
          refine tt_bipush hV rfl (by decide) (pc' := 88) rfl ?_
          refine q_iald hV rfl (hB _ _ rfl) (Nat.le_of_ble_eq_true rfl) rfl (by decide) (pc' := 89) rfl ?_
          refine vtI (y := m55 101 20 - 1) (up_same _ _ _ _) ?_
          exact rq_ret (q := mI234) rfl rfl rfl h
        · replace h := h.2 hc
          refine tt_iconst hV rfl (pc' := 53) rfl ?_
          exact rq_ret (q := mI234) rfl rfl rfl h
    · replace h := h.2 hc
      refine tt_iconst hV rfl (pc' := 28) rfl ?_
      refine r_goto hV rfl (pc' := 46) (by decide) ?_
      obtain ⟨v46, m46, h, hr⟩ := h
      refine tt_cv1I hV rfl rfl rfl (Wd_obj (hB _ _ rfl)) (Nat.le_of_ble_eq_true rfl) (Nat.le_of_ble_eq_true rfl) rfl hr (pc' := 49) rfl ?_
      obtain ⟨g6, h⟩ := h
      refine tt_if_eq hV rfl g6 (pt := 54) (by decide) (pf := 52) rfl (fun hc => ?_) (fun hc => ?_)
      · replace h := h.1 hc
        refine r_aload_n hV rfl rfl (pc' := 55) rfl ?_
        obtain ⟨m55, h, hr⟩ := h
        refine tt_cv0U hV rfl rfl rfl (Wd_obj (hB _ _ rfl)) (Nat.le_of_ble_eq_true rfl) (Nat.le_of_ble_eq_true rfl) rfl hr (pc' := 58) rfl ?_
        refine r_aload_n hV rfl rfl (pc' := 59) rfl ?_
        refine tt_getR hV (tg := 6) (ci := 12) (kf := 30) rfl rfl (by decide) (hB _ _ rfl) rfl (by decide) (pc' := 62) rfl ?_
        refine tt_bipush hV rfl (by decide) (pc' := 64) rfl ?_
        refine r_dup2 hV rfl rfl rfl (pc' := 65) rfl ?_
        refine q_iald hV rfl (hB _ _ rfl) (Nat.le_of_ble_eq_true rfl) rfl (by decide) (pc' := 66) rfl ?_
        refine tt_iconst hV rfl (pc' := 67) rfl ?_
        refine r_iload_n hV rfl rfl (pc' := 68) rfl ?_
        refine tt_ishl hV rfl (pc' := 69) rfl ?_
        refine tt_ior hV rfl (pc' := 70) rfl ?_
        refine q_iast hV rfl (hB _ _ rfl) (Nat.le_of_ble_eq_true rfl) rfl (by decide) (pc' := 71) rfl ?_
        refine r_aload_n hV rfl rfl (pc' := 72) rfl ?_
        refine tt_getR hV (tg := 6) (ci := 12) (kf := 30) rfl rfl (by decide) (hB _ _ rfl) rfl (by decide) (pc' := 75) rfl ?_
        refine tt_bipush hV rfl (by decide) (pc' := 77) rfl ?_
        refine r_dup2 hV rfl rfl rfl (pc' := 78) rfl ?_
        refine q_iald hV rfl (hB _ _ rfl) (Nat.le_of_ble_eq_true rfl) rfl (by decide) (pc' := 79) rfl ?_
        refine vtI (y := m55 101 20) (up_ne (Or.inr (by decide))) ?_
        refine tt_iconst hV rfl (pc' := 80) rfl ?_
        refine tt_isub hV rfl (pc' := 81) rfl ?_
        refine q_iast hV rfl (hB _ _ rfl) (Nat.le_of_ble_eq_true rfl) rfl (by decide) (pc' := 82) rfl ?_
        refine r_aload_n hV rfl rfl (pc' := 83) rfl ?_
        refine tt_getR hV (tg := 6) (ci := 12) (kf := 30) rfl rfl (by decide) (hB _ _ rfl) rfl (by decide) (pc' := 86) rfl ?_
        refine tt_bipush hV rfl (by decide) (pc' := 88) rfl ?_
        refine q_iald hV rfl (hB _ _ rfl) (Nat.le_of_ble_eq_true rfl) rfl (by decide) (pc' := 89) rfl ?_
        refine vtI (y := m55 101 20 - 1) (up_same _ _ _ _) ?_
        exact rq_ret (q := mI234) rfl rfl rfl h
      · replace h := h.2 hc
        refine tt_iconst hV rfl (pc' := 53) rfl ?_
        exact rq_ret (q := mI234) rfl rfl rfl h
  · replace h := h.2 (Decidable.not_not.mp hc)
    refine tt_iconst hV rfl (pc' := 10) rfl ?_
    refine r_goto hV rfl (pc' := 46) (by decide) ?_
    obtain ⟨v46, m46, h, hr⟩ := h
    refine tt_cv1I hV rfl rfl rfl (Wd_obj (hB _ _ rfl)) (Nat.le_of_ble_eq_true rfl) (Nat.le_of_ble_eq_true rfl) rfl hr (pc' := 49) rfl ?_
    obtain ⟨g7, h⟩ := h
    refine tt_if_eq hV rfl g7 (pt := 54) (by decide) (pf := 52) rfl (fun hc => ?_) (fun hc => ?_)
    · replace h := h.1 hc
      refine r_aload_n hV rfl rfl (pc' := 55) rfl ?_
      obtain ⟨m55, h, hr⟩ := h
      refine tt_cv0U hV rfl rfl rfl (Wd_obj (hB _ _ rfl)) (Nat.le_of_ble_eq_true rfl) (Nat.le_of_ble_eq_true rfl) rfl hr (pc' := 58) rfl ?_
      refine r_aload_n hV rfl rfl (pc' := 59) rfl ?_
      refine tt_getR hV (tg := 6) (ci := 12) (kf := 30) rfl rfl (by decide) (hB _ _ rfl) rfl (by decide) (pc' := 62) rfl ?_
      refine tt_bipush hV rfl (by decide) (pc' := 64) rfl ?_
      refine r_dup2 hV rfl rfl rfl (pc' := 65) rfl ?_
      refine q_iald hV rfl (hB _ _ rfl) (Nat.le_of_ble_eq_true rfl) rfl (by decide) (pc' := 66) rfl ?_
      refine tt_iconst hV rfl (pc' := 67) rfl ?_
      refine r_iload_n hV rfl rfl (pc' := 68) rfl ?_
      refine tt_ishl hV rfl (pc' := 69) rfl ?_
      refine tt_ior hV rfl (pc' := 70) rfl ?_
      refine q_iast hV rfl (hB _ _ rfl) (Nat.le_of_ble_eq_true rfl) rfl (by decide) (pc' := 71) rfl ?_
      refine r_aload_n hV rfl rfl (pc' := 72) rfl ?_
      refine tt_getR hV (tg := 6) (ci := 12) (kf := 30) rfl rfl (by decide) (hB _ _ rfl) rfl (by decide) (pc' := 75) rfl ?_
      refine tt_bipush hV rfl (by decide) (pc' := 77) rfl ?_
      refine r_dup2 hV rfl rfl rfl (pc' := 78) rfl ?_
      refine q_iald hV rfl (hB _ _ rfl) (Nat.le_of_ble_eq_true rfl) rfl (by decide) (pc' := 79) rfl ?_
      refine vtI (y := m55 101 20) (up_ne (Or.inr (by decide))) ?_
      refine tt_iconst hV rfl (pc' := 80) rfl ?_
      refine tt_isub hV rfl (pc' := 81) rfl ?_
      refine q_iast hV rfl (hB _ _ rfl) (Nat.le_of_ble_eq_true rfl) rfl (by decide) (pc' := 82) rfl ?_
      refine r_aload_n hV rfl rfl (pc' := 83) rfl ?_
      refine tt_getR hV (tg := 6) (ci := 12) (kf := 30) rfl rfl (by decide) (hB _ _ rfl) rfl (by decide) (pc' := 86) rfl ?_
      refine tt_bipush hV rfl (by decide) (pc' := 88) rfl ?_
      refine q_iald hV rfl (hB _ _ rfl) (Nat.le_of_ble_eq_true rfl) rfl (by decide) (pc' := 89) rfl ?_
      refine vtI (y := m55 101 20 - 1) (up_same _ _ _ _) ?_
      exact rq_ret (q := mI234) rfl rfl rfl h
    · replace h := h.2 hc
      refine tt_iconst hV rfl (pc' := 53) rfl ?_
      exact rq_ret (q := mI234) rfl rfl rfl h
theorem M_rowsw {X : Cx} {d : Nat} {x : Int} {m : Mm} {Q : Int → Mm → Prop} (hB : Bsh X.2.2.1) (h : (-2147483648 ≤ (m 83 28) ∧ (m 83 28) < 2147483648) ∧ (m 83 28 ≠ 0 → M_in X d x 1 20 m (fun v16 m16 => (-2147483648 ≤ v16 ∧ v16 < 2147483648) ∧ (v16 ≠ 0 → (-2147483648 ≤ (m16 101 21 + x) ∧ (m16 101 21 + x) < 2147483648) ∧ (-2147483648 ≤ (m16 98 3) ∧ (m16 98 3) < 2147483648) ∧ (m16 101 21 + x ≤ m16 98 3 → M_isRefused X d (-1) m16 (fun v49 m49 => (-2147483648 ≤ v49 ∧ v49 < 2147483648) ∧ (v49 = 0 → M_rows_59 X (d + 1) x 0 m49 Q) ∧ (v49 ≠ 0 → Q (-1) m49))) ∧ (m16 98 3 < m16 101 21 + x → M_isRefused X d 4 m16 (fun v49 m49 => (-2147483648 ≤ v49 ∧ v49 < 2147483648) ∧ (v49 = 0 → M_rows_59 X (d + 1) x 0 m49 Q) ∧ (v49 ≠ 0 → Q (-1) m49)))) ∧ (v16 = 0 → M_isRefused X d 1 m16 (fun v49 m49 => (-2147483648 ≤ v49 ∧ v49 < 2147483648) ∧ (v49 = 0 → M_rows_59 X (d + 1) x 0 m49 Q) ∧ (v49 ≠ 0 → Q (-1) m49))))) ∧ (m 83 28 = 0 → M_isRefused X d 0 m (fun v49 m49 => (-2147483648 ≤ v49 ∧ v49 < 2147483648) ∧ (v49 = 0 → M_rows_59 X (d + 1) x 0 m49 Q) ∧ (v49 ≠ 0 → Q (-1) m49)))) : M_rows X (d + 1) x m Q := by
  unfold M_rows
  have hV : Clo (gP X.1 X.2.1) (d + 1) 235 3 false (Rq (gP X.1 X.2.1) (d + 1) 235 X.2.2.1 X.2.2.2 Q) := Rq_clo (q := mI235) rfl
  refine r_aload_n hV rfl rfl (pc' := 1) rfl ?_
  refine r_aload_n hV rfl rfl (pc' := 2) rfl ?_
  refine tt_getI hV (tg := 0) (ci := 12) (kf := 28) rfl rfl (by decide) (hB _ _ rfl) rfl (by decide) (pc' := 5) rfl ?_
  obtain ⟨g1, h⟩ := h
  refine tt_if_ne hV rfl g1 (pt := 12) (by decide) (pf := 8) rfl (fun hc => ?_) (fun hc => ?_)
  · replace h := h.1 hc
    refine r_iload_n hV rfl rfl (pc' := 13) rfl ?_
    refine tt_iconst hV rfl (pc' := 14) rfl ?_
    refine tt_bipush hV rfl (by decide) (pc' := 16) rfl ?_
    obtain ⟨v16, m16, h, hr⟩ := h
    refine tt_cs3I hV rfl rfl rfl (Nat.le_of_ble_eq_true rfl) (Nat.le_of_ble_eq_true rfl) rfl hr (pc' := 19) rfl ?_
    obtain ⟨g2, h⟩ := h
    refine tt_if_ne hV rfl g2 (pt := 26) (by decide) (pf := 22) rfl (fun hc => ?_) (fun hc => ?_)
    · replace h := h.1 hc
      refine r_aload_n hV rfl rfl (pc' := 27) rfl ?_
      refine tt_getR hV (tg := 6) (ci := 12) (kf := 30) rfl rfl (by decide) (hB _ _ rfl) rfl (by decide) (pc' := 30) rfl ?_
      refine tt_bipush hV rfl (by decide) (pc' := 32) rfl ?_
      refine q_iald hV rfl (hB _ _ rfl) (Nat.le_of_ble_eq_true rfl) rfl (by decide) (pc' := 33) rfl ?_
      refine r_iload_n hV rfl rfl (pc' := 34) rfl ?_
      refine tt_iadd hV rfl (pc' := 35) rfl ?_
      refine r_aload_n hV rfl rfl (pc' := 36) rfl ?_
      refine tt_getR hV (tg := 6) (ci := 12) (kf := 24) rfl rfl (by decide) (hB _ _ rfl) rfl (by decide) (pc' := 39) rfl ?_
      refine tt_iconst hV rfl (pc' := 40) rfl ?_
      refine q_iald hV rfl (hB _ _ rfl) (Nat.le_of_ble_eq_true rfl) rfl (by decide) (pc' := 41) rfl ?_
      obtain ⟨g3, h⟩ := h
      obtain ⟨g4, h⟩ := h
      refine tt_icmp_le hV rfl g3 g4 (pt := 48) (by decide) (pf := 44) rfl (fun hc => ?_) (fun hc => ?_)
      · replace h := h.1 hc
        refine tt_iconst hV rfl (pc' := 49) rfl ?_
        obtain ⟨v49, m49, h, hr⟩ := h
        refine tt_cv1I hV rfl rfl rfl (Wd_obj (hB _ _ rfl)) (Nat.le_of_ble_eq_true rfl) (Nat.le_of_ble_eq_true rfl) rfl hr (pc' := 52) rfl ?_
        obtain ⟨g5, h⟩ := h
        refine tt_if_eq hV rfl g5 (pt := 57) (by decide) (pf := 55) rfl (fun hc => ?_) (fun hc => ?_)
        · replace h := h.1 hc
          refine tt_iconst hV rfl (pc' := 58) rfl ?_
          refine tt_istore2 hV rfl rfl (pc' := 59) rfl ?_
          exact h
        · replace h := h.2 hc
          refine tt_iconst hV rfl (pc' := 56) rfl ?_
          exact rq_ret (q := mI235) rfl rfl rfl h
      · replace h := h.2 (Int.not_le.mp hc)
        refine tt_iconst hV rfl (pc' := 45) rfl ?_
        refine r_goto hV rfl (pc' := 49) (by decide) ?_
        obtain ⟨v49, m49, h, hr⟩ := h
        refine tt_cv1I hV rfl rfl rfl (Wd_obj (hB _ _ rfl)) (Nat.le_of_ble_eq_true rfl) (Nat.le_of_ble_eq_true rfl) rfl hr (pc' := 52) rfl ?_
        obtain ⟨g6, h⟩ := h
        refine tt_if_eq hV rfl g6 (pt := 57) (by decide) (pf := 55) rfl (fun hc => ?_) (fun hc => ?_)
        · replace h := h.1 hc
          refine tt_iconst hV rfl (pc' := 58) rfl ?_
          refine tt_istore2 hV rfl rfl (pc' := 59) rfl ?_
          exact h
        · replace h := h.2 hc
          refine tt_iconst hV rfl (pc' := 56) rfl ?_
          exact rq_ret (q := mI235) rfl rfl rfl h
    · replace h := h.2 (Decidable.not_not.mp hc)
      refine tt_iconst hV rfl (pc' := 23) rfl ?_
      refine r_goto hV rfl (pc' := 49) (by decide) ?_
      obtain ⟨v49, m49, h, hr⟩ := h
      refine tt_cv1I hV rfl rfl rfl (Wd_obj (hB _ _ rfl)) (Nat.le_of_ble_eq_true rfl) (Nat.le_of_ble_eq_true rfl) rfl hr (pc' := 52) rfl ?_
      obtain ⟨g7, h⟩ := h
      refine tt_if_eq hV rfl g7 (pt := 57) (by decide) (pf := 55) rfl (fun hc => ?_) (fun hc => ?_)
      · replace h := h.1 hc
        refine tt_iconst hV rfl (pc' := 58) rfl ?_
        refine tt_istore2 hV rfl rfl (pc' := 59) rfl ?_
        exact h
      · replace h := h.2 hc
        refine tt_iconst hV rfl (pc' := 56) rfl ?_
        exact rq_ret (q := mI235) rfl rfl rfl h
  · replace h := h.2 (Decidable.not_not.mp hc)
    refine tt_iconst hV rfl (pc' := 9) rfl ?_
    refine r_goto hV rfl (pc' := 49) (by decide) ?_
    obtain ⟨v49, m49, h, hr⟩ := h
    refine tt_cv1I hV rfl rfl rfl (Wd_obj (hB _ _ rfl)) (Nat.le_of_ble_eq_true rfl) (Nat.le_of_ble_eq_true rfl) rfl hr (pc' := 52) rfl ?_
    obtain ⟨g8, h⟩ := h
    refine tt_if_eq hV rfl g8 (pt := 57) (by decide) (pf := 55) rfl (fun hc => ?_) (fun hc => ?_)
    · replace h := h.1 hc
      refine tt_iconst hV rfl (pc' := 58) rfl ?_
      refine tt_istore2 hV rfl rfl (pc' := 59) rfl ?_
      exact h
    · replace h := h.2 hc
      refine tt_iconst hV rfl (pc' := 56) rfl ?_
      exact rq_ret (q := mI235) rfl rfl rfl h
theorem M_rows_59w {X : Cx} {d : Nat} {x : Int} {l2 : Int} {m : Mm} {Q : Int → Mm → Prop} (hB : Bsh X.2.2.1) (h : (-2147483648 ≤ l2 ∧ l2 < 2147483648) ∧ (-2147483648 ≤ x ∧ x < 2147483648) ∧ (x ≤ l2 → Q (m 101 22) m) ∧ (l2 < x → M_keep X d m (fun m65 => M_passRow X d m65 (fun m69 => M_rows_59 X (d + 1) x (l2 + 1) m69 Q)))) : M_rows_59 X (d + 1) x l2 m Q := by
  unfold M_rows_59
  have hV : Clo (gP X.1 X.2.1) (d + 1) 235 3 false (Rq (gP X.1 X.2.1) (d + 1) 235 X.2.2.1 X.2.2.2 Q) := Rq_clo (q := mI235) rfl
  refine r_iload_n hV rfl rfl (pc' := 60) rfl ?_
  refine r_iload_n hV rfl rfl (pc' := 61) rfl ?_
  obtain ⟨g9, h⟩ := h
  obtain ⟨g10, h⟩ := h
  refine tt_icmp_ge hV rfl g9 g10 (pt := 78) (by decide) (pf := 64) rfl (fun hc => ?_) (fun hc => ?_)
  · replace h := h.1 hc
    refine r_aload_n hV rfl rfl (pc' := 79) rfl ?_
    refine tt_getR hV (tg := 6) (ci := 12) (kf := 30) rfl rfl (by decide) (hB _ _ rfl) rfl (by decide) (pc' := 82) rfl ?_
    refine tt_bipush hV rfl (by decide) (pc' := 84) rfl ?_
    refine q_iald hV rfl (hB _ _ rfl) (Nat.le_of_ble_eq_true rfl) rfl (by decide) (pc' := 85) rfl ?_
    exact rq_ret (q := mI235) rfl rfl rfl h
  · replace h := h.2 (Int.not_le.mp hc)
    refine r_aload_n hV rfl rfl (pc' := 65) rfl ?_
    obtain ⟨m65, h, hr⟩ := h
    refine tt_cv0U hV rfl rfl rfl (Wd_obj (hB _ _ rfl)) (Nat.le_of_ble_eq_true rfl) (Nat.le_of_ble_eq_true rfl) rfl hr (pc' := 68) rfl ?_
    refine r_aload_n hV rfl rfl (pc' := 69) rfl ?_
    obtain ⟨m69, h, hr⟩ := h
    refine tt_cv0U hV rfl rfl rfl (Wd_obj (hB _ _ rfl)) (Nat.le_of_ble_eq_true rfl) (Nat.le_of_ble_eq_true rfl) rfl hr (pc' := 72) rfl ?_
    refine tt_iinc2 hV rfl rfl (pc' := 75) rfl ?_
    refine r_goto hV rfl (pc' := 59) (by decide) ?_
    exact h
theorem M_walkBackw {X : Cx} {d : Nat} {m : Mm} {Q : Mm → Prop} (hB : Bsh X.2.2.1) (h : Q (up (up (up (up m 101 21 0) 101 22 (m 98 1)) 101 18 0) 101 23 (m 101 23 + 1))) : M_walkBack X d m Q := by
  unfold M_walkBack
  have hV : Clo (gP X.1 X.2.1) d 236 1 false (Ru0 (gP X.1 X.2.1) d 236 X.2.2.1 X.2.2.2 Q) := Ru0_clo (q := mI236) rfl
  refine r_aload_n hV rfl rfl (pc' := 1) rfl ?_
  refine tt_getR hV (tg := 6) (ci := 12) (kf := 30) rfl rfl (by decide) (hB _ _ rfl) rfl (by decide) (pc' := 4) rfl ?_
  refine tt_bipush hV rfl (by decide) (pc' := 6) rfl ?_
  refine tt_iconst hV rfl (pc' := 7) rfl ?_
  refine q_iast hV rfl (hB _ _ rfl) (Nat.le_of_ble_eq_true rfl) rfl (by decide) (pc' := 8) rfl ?_
  refine r_aload_n hV rfl rfl (pc' := 9) rfl ?_
  refine tt_getR hV (tg := 6) (ci := 12) (kf := 30) rfl rfl (by decide) (hB _ _ rfl) rfl (by decide) (pc' := 12) rfl ?_
  refine tt_bipush hV rfl (by decide) (pc' := 14) rfl ?_
  refine r_aload_n hV rfl rfl (pc' := 15) rfl ?_
  refine tt_getR hV (tg := 6) (ci := 12) (kf := 24) rfl rfl (by decide) (hB _ _ rfl) rfl (by decide) (pc' := 18) rfl ?_
  refine tt_iconst hV rfl (pc' := 19) rfl ?_
  refine q_iald hV rfl (hB _ _ rfl) (Nat.le_of_ble_eq_true rfl) rfl (by decide) (pc' := 20) rfl ?_
  refine vtI (y := m 98 1) (up_ne (Or.inl (by decide))) ?_
  refine q_iast hV rfl (hB _ _ rfl) (Nat.le_of_ble_eq_true rfl) rfl (by decide) (pc' := 21) rfl ?_
  refine r_aload_n hV rfl rfl (pc' := 22) rfl ?_
  refine tt_getR hV (tg := 6) (ci := 12) (kf := 30) rfl rfl (by decide) (hB _ _ rfl) rfl (by decide) (pc' := 25) rfl ?_
  refine tt_bipush hV rfl (by decide) (pc' := 27) rfl ?_
  refine tt_iconst hV rfl (pc' := 28) rfl ?_
  refine q_iast hV rfl (hB _ _ rfl) (Nat.le_of_ble_eq_true rfl) rfl (by decide) (pc' := 29) rfl ?_
  refine r_aload_n hV rfl rfl (pc' := 30) rfl ?_
  refine tt_getR hV (tg := 6) (ci := 12) (kf := 30) rfl rfl (by decide) (hB _ _ rfl) rfl (by decide) (pc' := 33) rfl ?_
  refine tt_bipush hV rfl (by decide) (pc' := 35) rfl ?_
  refine r_dup2 hV rfl rfl rfl (pc' := 36) rfl ?_
  refine q_iald hV rfl (hB _ _ rfl) (Nat.le_of_ble_eq_true rfl) rfl (by decide) (pc' := 37) rfl ?_
  refine vtI (y := m 101 23) ((up_ne (Or.inr (by decide))).trans ((up_ne (Or.inr (by decide))).trans (up_ne (Or.inr (by decide))))) ?_
  refine tt_iconst hV rfl (pc' := 38) rfl ?_
  refine tt_iadd hV rfl (pc' := 39) rfl ?_
  refine q_iast hV rfl (hB _ _ rfl) (Nat.le_of_ble_eq_true rfl) rfl (by decide) (pc' := 40) rfl ?_
  exact ru0_ret (q := mI236) rfl rfl rfl h
theorem M_walkw {X : Cx} {d : Nat} {m : Mm} {Q : Int → Mm → Prop} (hB : Bsh X.2.2.1) (h : (-2147483648 ≤ (m 83 28) ∧ (m 83 28) < 2147483648) ∧ (m 83 28 ≠ 0 → M_isLast X d m (fun v13 m13 => (-2147483648 ≤ v13 ∧ v13 < 2147483648) ∧ (v13 ≠ 0 → M_isRefused X d (-1) m13 (fun v24 m24 => (-2147483648 ≤ v24 ∧ v24 < 2147483648) ∧ (v24 = 0 → M_keep X d m24 (fun m33 => M_walkBack X d m33 (fun m37 => Q (m37 101 23) m37))) ∧ (v24 ≠ 0 → Q (-1) m24))) ∧ (v13 = 0 → M_isRefused X d 4 m13 (fun v24 m24 => (-2147483648 ≤ v24 ∧ v24 < 2147483648) ∧ (v24 = 0 → M_keep X d m24 (fun m33 => M_walkBack X d m33 (fun m37 => Q (m37 101 23) m37))) ∧ (v24 ≠ 0 → Q (-1) m24))))) ∧ (m 83 28 = 0 → M_isRefused X d 0 m (fun v24 m24 => (-2147483648 ≤ v24 ∧ v24 < 2147483648) ∧ (v24 = 0 → M_keep X d m24 (fun m33 => M_walkBack X d m33 (fun m37 => Q (m37 101 23) m37))) ∧ (v24 ≠ 0 → Q (-1) m24)))) : M_walk X (d + 1) m Q := by
  unfold M_walk
  have hV : Clo (gP X.1 X.2.1) (d + 1) 237 1 false (Rq (gP X.1 X.2.1) (d + 1) 237 X.2.2.1 X.2.2.2 Q) := Rq_clo (q := mI237) rfl
  refine r_aload_n hV rfl rfl (pc' := 1) rfl ?_
  refine r_aload_n hV rfl rfl (pc' := 2) rfl ?_
  refine tt_getI hV (tg := 0) (ci := 12) (kf := 28) rfl rfl (by decide) (hB _ _ rfl) rfl (by decide) (pc' := 5) rfl ?_
  obtain ⟨g1, h⟩ := h
  refine tt_if_ne hV rfl g1 (pt := 12) (by decide) (pf := 8) rfl (fun hc => ?_) (fun hc => ?_)
  · replace h := h.1 hc
    refine r_aload_n hV rfl rfl (pc' := 13) rfl ?_
    obtain ⟨v13, m13, h, hr⟩ := h
    refine tt_cv0I hV rfl rfl rfl (Wd_obj (hB _ _ rfl)) (Nat.le_of_ble_eq_true rfl) (Nat.le_of_ble_eq_true rfl) rfl hr (pc' := 16) rfl ?_
    obtain ⟨g2, h⟩ := h
    refine tt_if_ne hV rfl g2 (pt := 23) (by decide) (pf := 19) rfl (fun hc => ?_) (fun hc => ?_)
    · replace h := h.1 hc
      refine tt_iconst hV rfl (pc' := 24) rfl ?_
      obtain ⟨v24, m24, h, hr⟩ := h
      refine tt_cv1I hV rfl rfl rfl (Wd_obj (hB _ _ rfl)) (Nat.le_of_ble_eq_true rfl) (Nat.le_of_ble_eq_true rfl) rfl hr (pc' := 27) rfl ?_
      obtain ⟨g3, h⟩ := h
      refine tt_if_eq hV rfl g3 (pt := 32) (by decide) (pf := 30) rfl (fun hc => ?_) (fun hc => ?_)
      · replace h := h.1 hc
        refine r_aload_n hV rfl rfl (pc' := 33) rfl ?_
        obtain ⟨m33, h, hr⟩ := h
        refine tt_cv0U hV rfl rfl rfl (Wd_obj (hB _ _ rfl)) (Nat.le_of_ble_eq_true rfl) (Nat.le_of_ble_eq_true rfl) rfl hr (pc' := 36) rfl ?_
        refine r_aload_n hV rfl rfl (pc' := 37) rfl ?_
        obtain ⟨m37, h, hr⟩ := h
        refine tt_cv0U hV rfl rfl rfl (Wd_obj (hB _ _ rfl)) (Nat.le_of_ble_eq_true rfl) (Nat.le_of_ble_eq_true rfl) rfl hr (pc' := 40) rfl ?_
        refine r_aload_n hV rfl rfl (pc' := 41) rfl ?_
        refine tt_getR hV (tg := 6) (ci := 12) (kf := 30) rfl rfl (by decide) (hB _ _ rfl) rfl (by decide) (pc' := 44) rfl ?_
        refine tt_bipush hV rfl (by decide) (pc' := 46) rfl ?_
        refine q_iald hV rfl (hB _ _ rfl) (Nat.le_of_ble_eq_true rfl) rfl (by decide) (pc' := 47) rfl ?_
        exact rq_ret (q := mI237) rfl rfl rfl h
      · replace h := h.2 hc
        refine tt_iconst hV rfl (pc' := 31) rfl ?_
        exact rq_ret (q := mI237) rfl rfl rfl h
    · replace h := h.2 (Decidable.not_not.mp hc)
      refine tt_iconst hV rfl (pc' := 20) rfl ?_
      refine r_goto hV rfl (pc' := 24) (by decide) ?_
      obtain ⟨v24, m24, h, hr⟩ := h
      refine tt_cv1I hV rfl rfl rfl (Wd_obj (hB _ _ rfl)) (Nat.le_of_ble_eq_true rfl) (Nat.le_of_ble_eq_true rfl) rfl hr (pc' := 27) rfl ?_
      obtain ⟨g4, h⟩ := h
      refine tt_if_eq hV rfl g4 (pt := 32) (by decide) (pf := 30) rfl (fun hc => ?_) (fun hc => ?_)
      · replace h := h.1 hc
        refine r_aload_n hV rfl rfl (pc' := 33) rfl ?_
        obtain ⟨m33, h, hr⟩ := h
        refine tt_cv0U hV rfl rfl rfl (Wd_obj (hB _ _ rfl)) (Nat.le_of_ble_eq_true rfl) (Nat.le_of_ble_eq_true rfl) rfl hr (pc' := 36) rfl ?_
        refine r_aload_n hV rfl rfl (pc' := 37) rfl ?_
        obtain ⟨m37, h, hr⟩ := h
        refine tt_cv0U hV rfl rfl rfl (Wd_obj (hB _ _ rfl)) (Nat.le_of_ble_eq_true rfl) (Nat.le_of_ble_eq_true rfl) rfl hr (pc' := 40) rfl ?_
        refine r_aload_n hV rfl rfl (pc' := 41) rfl ?_
        refine tt_getR hV (tg := 6) (ci := 12) (kf := 30) rfl rfl (by decide) (hB _ _ rfl) rfl (by decide) (pc' := 44) rfl ?_
        refine tt_bipush hV rfl (by decide) (pc' := 46) rfl ?_
        refine q_iald hV rfl (hB _ _ rfl) (Nat.le_of_ble_eq_true rfl) rfl (by decide) (pc' := 47) rfl ?_
        exact rq_ret (q := mI237) rfl rfl rfl h
      · replace h := h.2 hc
        refine tt_iconst hV rfl (pc' := 31) rfl ?_
        exact rq_ret (q := mI237) rfl rfl rfl h
  · replace h := h.2 (Decidable.not_not.mp hc)
    refine tt_iconst hV rfl (pc' := 9) rfl ?_
    refine r_goto hV rfl (pc' := 24) (by decide) ?_
    obtain ⟨v24, m24, h, hr⟩ := h
    refine tt_cv1I hV rfl rfl rfl (Wd_obj (hB _ _ rfl)) (Nat.le_of_ble_eq_true rfl) (Nat.le_of_ble_eq_true rfl) rfl hr (pc' := 27) rfl ?_
    obtain ⟨g5, h⟩ := h
    refine tt_if_eq hV rfl g5 (pt := 32) (by decide) (pf := 30) rfl (fun hc => ?_) (fun hc => ?_)
    · replace h := h.1 hc
      refine r_aload_n hV rfl rfl (pc' := 33) rfl ?_
      obtain ⟨m33, h, hr⟩ := h
      refine tt_cv0U hV rfl rfl rfl (Wd_obj (hB _ _ rfl)) (Nat.le_of_ble_eq_true rfl) (Nat.le_of_ble_eq_true rfl) rfl hr (pc' := 36) rfl ?_
      refine r_aload_n hV rfl rfl (pc' := 37) rfl ?_
      obtain ⟨m37, h, hr⟩ := h
      refine tt_cv0U hV rfl rfl rfl (Wd_obj (hB _ _ rfl)) (Nat.le_of_ble_eq_true rfl) (Nat.le_of_ble_eq_true rfl) rfl hr (pc' := 40) rfl ?_
      refine r_aload_n hV rfl rfl (pc' := 41) rfl ?_
      refine tt_getR hV (tg := 6) (ci := 12) (kf := 30) rfl rfl (by decide) (hB _ _ rfl) rfl (by decide) (pc' := 44) rfl ?_
      refine tt_bipush hV rfl (by decide) (pc' := 46) rfl ?_
      refine q_iald hV rfl (hB _ _ rfl) (Nat.le_of_ble_eq_true rfl) rfl (by decide) (pc' := 47) rfl ?_
      exact rq_ret (q := mI237) rfl rfl rfl h
    · replace h := h.2 hc
      refine tt_iconst hV rfl (pc' := 31) rfl ?_
      exact rq_ret (q := mI237) rfl rfl rfl h
theorem M_dogsw {X : Cx} {d : Nat} {x : Int} {m : Mm} {Q : Int → Mm → Prop} (hB : Bsh X.2.2.1) (h : M_in X d x 0 9 m (fun v4 m4 => (-2147483648 ≤ v4 ∧ v4 < 2147483648) ∧ (v4 = 0 → Q 0 m4) ∧ (v4 ≠ 0 → (-2147483648 ≤ x ∧ x < 2147483648) ∧ (-2147483648 ≤ (m4 83 33) ∧ (m4 83 33) < 2147483648) ∧ (x ≠ m4 83 33 → Q 1 (up m4 83 33 x)) ∧ (x = m4 83 33 → Q 0 m4)))) : M_dogs X (d + 1) x m Q := by
  unfold M_dogs
  have hV : Clo (gP X.1 X.2.1) (d + 1) 238 2 false (Rq (gP X.1 X.2.1) (d + 1) 238 X.2.2.1 X.2.2.2 Q) := Rq_clo (q := mI238) rfl
  refine r_iload_n hV rfl rfl (pc' := 1) rfl ?_
  refine tt_iconst hV rfl (pc' := 2) rfl ?_
  refine tt_bipush hV rfl (by decide) (pc' := 4) rfl ?_
  obtain ⟨v4, m4, h, hr⟩ := h
  refine tt_cs3I hV rfl rfl rfl (Nat.le_of_ble_eq_true rfl) (Nat.le_of_ble_eq_true rfl) rfl hr (pc' := 7) rfl ?_
  obtain ⟨g1, h⟩ := h
  refine tt_if_eq hV rfl g1 (pt := 18) (by decide) (pf := 10) rfl (fun hc => ?_) (fun hc => ?_)
  · replace h := h.1 hc
    refine tt_iconst hV rfl (pc' := 19) rfl ?_
    exact rq_ret (q := mI238) rfl rfl rfl h
  · replace h := h.2 hc
    refine r_iload_n hV rfl rfl (pc' := 11) rfl ?_
    refine r_aload_n hV rfl rfl (pc' := 12) rfl ?_
    refine tt_getI hV (tg := 0) (ci := 12) (kf := 33) rfl rfl (by decide) (hB _ _ rfl) rfl (by decide) (pc' := 15) rfl ?_
    obtain ⟨g2, h⟩ := h
    obtain ⟨g3, h⟩ := h
    refine tt_icmp_ne hV rfl g2 g3 (pt := 20) (by decide) (pf := 18) rfl (fun hc => ?_) (fun hc => ?_)
    · replace h := h.1 hc
      refine r_aload_n hV rfl rfl (pc' := 21) rfl ?_
      refine r_iload_n hV rfl rfl (pc' := 22) rfl ?_
      refine tt_putI hV (tg := 0) (ci := 12) (kf := 33) rfl rfl (Or.inl rfl) (hB _ _ rfl) rfl (by decide) rfl (pc' := 25) rfl ?_
      refine tt_iconst hV rfl (pc' := 26) rfl ?_
      exact rq_ret (q := mI238) rfl rfl rfl h
    · replace h := h.2 (Decidable.not_not.mp hc)
      refine tt_iconst hV rfl (pc' := 19) rfl ?_
      exact rq_ret (q := mI238) rfl rfl rfl h
theorem M_draww {X : Cx} {d : Nat} {x : Int} {m : Mm} {Q : Int → Mm → Prop} (hB : Bsh X.2.2.1) (h : (-2147483648 ≤ x ∧ x < 2147483648) ∧ (¬ Int64.ofInt x = 0) ∧ Q ((jRm (jUr (((m 83 37) * 6364136223846793005) + 1442695040888963407) 33) x)) (up m 83 37 (((m 83 37) * 6364136223846793005) + 1442695040888963407))) : M_draw X d x m Q := by
  unfold M_draw
  have hV : Clo (gP X.1 X.2.1) d 239 2 false (Rq (gP X.1 X.2.1) d 239 X.2.2.1 X.2.2.2 Q) := Rq_clo (q := mI239) rfl
  refine r_aload_n hV rfl rfl (pc' := 1) rfl ?_
  refine r_aload_n hV rfl rfl (pc' := 2) rfl ?_
  refine tt_getJ hV (tg := 0) (ci := 12) (kf := 37) rfl rfl (by decide) (hB _ _ rfl) rfl (by decide) (pc' := 5) rfl ?_
  refine v_ldc2 hV (Int64.ofInt 6364136223846793005) rfl rfl rfl (pc' := 8) rfl ?_
  refine tt_lmul hV rfl (pc' := 9) rfl ?_
  refine v_ldc2 hV (Int64.ofInt 1442695040888963407) rfl rfl rfl (pc' := 12) rfl ?_
  refine tt_ladd hV rfl (pc' := 13) rfl ?_
  refine tt_putJ hV (tg := 0) (ci := 12) (kf := 37) rfl rfl (Or.inl rfl) (hB _ _ rfl) rfl (by decide) rfl (pc' := 16) rfl ?_
  refine r_aload_n hV rfl rfl (pc' := 17) rfl ?_
  refine tt_getJ hV (tg := 0) (ci := 12) (kf := 37) rfl rfl (by decide) (hB _ _ rfl) rfl (by decide) (pc' := 20) rfl ?_
  refine vtJ (y := (((m 83 37) * 6364136223846793005) + 1442695040888963407)) (up_same _ _ _ _) ?_
  refine tt_bipush hV rfl (by decide) (pc' := 22) rfl ?_
  refine tt_lushr hV rfl (pc' := 23) rfl ?_
  refine r_iload_n hV rfl rfl (pc' := 24) rfl ?_
  obtain ⟨g1, h⟩ := h
  refine tt_i2l hV rfl g1 (pc' := 25) rfl ?_
  obtain ⟨g2, h⟩ := h
  refine tt_lrem hV rfl g2 (pc' := 26) rfl ?_
  refine tt_l2i hV rfl (pc' := 27) rfl ?_
  exact rq_ret (q := mI239) rfl rfl rfl h
theorem M_drawSessionw {X : Cx} {d : Nat} {m : Mm} {Q : Mm → Prop} (hB : Bsh X.2.2.1) (h : M_isLast X d m (fun v1 m1 => (-2147483648 ≤ v1 ∧ v1 < 2147483648) ∧ (v1 = 0 → M_drawSession_13 X (d + 1) 0 m1 Q) ∧ (v1 ≠ 0 → M_walkBack X d m1 (fun m8 => M_drawSession_13 X (d + 1) 0 m8 Q)))) : M_drawSession X (d + 1) m Q := by
  unfold M_drawSession
  have hV : Clo (gP X.1 X.2.1) (d + 1) 240 3 false (Ru0 (gP X.1 X.2.1) (d + 1) 240 X.2.2.1 X.2.2.2 Q) := Ru0_clo (q := mI240) rfl
  refine r_aload_n hV rfl rfl (pc' := 1) rfl ?_
  obtain ⟨v1, m1, h, hr⟩ := h
  refine tt_cv0I hV rfl rfl rfl (Wd_obj (hB _ _ rfl)) (Nat.le_of_ble_eq_true rfl) (Nat.le_of_ble_eq_true rfl) rfl hr (pc' := 4) rfl ?_
  obtain ⟨g1, h⟩ := h
  refine tt_if_eq hV rfl g1 (pt := 11) (by decide) (pf := 7) rfl (fun hc => ?_) (fun hc => ?_)
  · replace h := h.1 hc
    refine tt_iconst hV rfl (pc' := 12) rfl ?_
    refine tt_istore1 hV rfl rfl (pc' := 13) rfl ?_
    exact h
  · replace h := h.2 hc
    refine r_aload_n hV rfl rfl (pc' := 8) rfl ?_
    obtain ⟨m8, h, hr⟩ := h
    refine tt_cv0U hV rfl rfl rfl (Wd_obj (hB _ _ rfl)) (Nat.le_of_ble_eq_true rfl) (Nat.le_of_ble_eq_true rfl) rfl hr (pc' := 11) rfl ?_
    refine tt_iconst hV rfl (pc' := 12) rfl ?_
    refine tt_istore1 hV rfl rfl (pc' := 13) rfl ?_
    exact h
theorem M_drawSession_13w {X : Cx} {d : Nat} {l1 : Int} {m : Mm} {Q : Mm → Prop} (hB : Bsh X.2.2.1) (h : (-2147483648 ≤ l1 ∧ l1 < 2147483648) ∧ (-2147483648 ≤ (m 83 28) ∧ (m 83 28) < 2147483648) ∧ (m 83 28 ≤ l1 → M_draw X d 10 m (fun v43 m43 => (-2147483648 ≤ v43 ∧ v43 < 2147483648) ∧ (-2147483648 ≤ (m43 83 33) ∧ (m43 83 33) < 2147483648) ∧ (m43 83 33 ≤ v43 → M_drawSession_77 X (d + 1) l1 none m43 Q) ∧ (v43 < m43 83 33 → M_draw X d (m43 83 28) m43 (fun v58 m58 => M_draw X d (m58 83 28) m58 (fun v67 m67 => M_changeNow X d v58 v67 m67 (fun m74 => M_drawSession_77 X (d + 1) v58 (some v67) m74 Q)))))) ∧ (l1 < m 83 28 → M_draw X d 3 m (fun v30 m30 => (0 ≤ l1 ∧ l1 < 205) ∧ M_drawSession_13 X (d + 1) (l1 + 1) (up m30 101 l1 v30) Q))) : M_drawSession_13 X (d + 1) l1 m Q := by
  unfold M_drawSession_13
  have hV : Clo (gP X.1 X.2.1) (d + 1) 240 3 false (Ru0 (gP X.1 X.2.1) (d + 1) 240 X.2.2.1 X.2.2.2 Q) := Ru0_clo (q := mI240) rfl
  refine r_iload_n hV rfl rfl (pc' := 14) rfl ?_
  refine r_aload_n hV rfl rfl (pc' := 15) rfl ?_
  refine tt_getI hV (tg := 0) (ci := 12) (kf := 28) rfl rfl (by decide) (hB _ _ rfl) rfl (by decide) (pc' := 18) rfl ?_
  obtain ⟨g2, h⟩ := h
  obtain ⟨g3, h⟩ := h
  refine tt_icmp_ge hV rfl g2 g3 (pt := 40) (by decide) (pf := 21) rfl (fun hc => ?_) (fun hc => ?_)
  · replace h := h.1 hc
    refine r_aload_n hV rfl rfl (pc' := 41) rfl ?_
    refine tt_bipush hV rfl (by decide) (pc' := 43) rfl ?_
    obtain ⟨v43, m43, h, hr⟩ := h
    refine tt_cv1I hV rfl rfl rfl (Wd_obj (hB _ _ rfl)) (Nat.le_of_ble_eq_true rfl) (Nat.le_of_ble_eq_true rfl) rfl hr (pc' := 46) rfl ?_
    refine r_aload_n hV rfl rfl (pc' := 47) rfl ?_
    refine tt_getI hV (tg := 0) (ci := 12) (kf := 33) rfl rfl (by decide) (hB _ _ rfl) rfl (by decide) (pc' := 50) rfl ?_
    obtain ⟨g4, h⟩ := h
    obtain ⟨g5, h⟩ := h
    refine tt_icmp_ge hV rfl g4 g5 (pt := 77) (by decide) (pf := 53) rfl (fun hc => ?_) (fun hc => ?_)
    · replace h := h.1 hc
      exact h
    · replace h := h.2 (Int.not_le.mp hc)
      refine r_aload_n hV rfl rfl (pc' := 54) rfl ?_
      refine r_aload_n hV rfl rfl (pc' := 55) rfl ?_
      refine tt_getI hV (tg := 0) (ci := 12) (kf := 28) rfl rfl (by decide) (hB _ _ rfl) rfl (by decide) (pc' := 58) rfl ?_
      obtain ⟨v58, m58, h, hr⟩ := h
      refine tt_cv1I hV rfl rfl rfl (Wd_obj (hB _ _ rfl)) (Nat.le_of_ble_eq_true rfl) (Nat.le_of_ble_eq_true rfl) rfl hr (pc' := 61) rfl ?_
      refine tt_istore1 hV rfl rfl (pc' := 62) rfl ?_
      refine r_aload_n hV rfl rfl (pc' := 63) rfl ?_
      refine r_aload_n hV rfl rfl (pc' := 64) rfl ?_
      refine tt_getI hV (tg := 0) (ci := 12) (kf := 28) rfl rfl (by decide) (hB _ _ rfl) rfl (by decide) (pc' := 67) rfl ?_
      obtain ⟨v67, m67, h, hr⟩ := h
      refine tt_cv1I hV rfl rfl rfl (Wd_obj (hB _ _ rfl)) (Nat.le_of_ble_eq_true rfl) (Nat.le_of_ble_eq_true rfl) rfl hr (pc' := 70) rfl ?_
      refine tt_istore2 hV rfl rfl (pc' := 71) rfl ?_
      refine r_aload_n hV rfl rfl (pc' := 72) rfl ?_
      refine r_iload_n hV rfl rfl (pc' := 73) rfl ?_
      refine r_iload_n hV rfl rfl (pc' := 74) rfl ?_
      obtain ⟨m74, h, hr⟩ := h
      refine tt_cv2U hV rfl rfl rfl (Wd_obj (hB _ _ rfl)) (Nat.le_of_ble_eq_true rfl) (Nat.le_of_ble_eq_true rfl) rfl hr (pc' := 77) rfl ?_
      exact h
  · replace h := h.2 (Int.not_le.mp hc)
    refine r_aload_n hV rfl rfl (pc' := 22) rfl ?_
    refine tt_getR hV (tg := 6) (ci := 12) (kf := 30) rfl rfl (by decide) (hB _ _ rfl) rfl (by decide) (pc' := 25) rfl ?_
    refine tt_iconst hV rfl (pc' := 26) rfl ?_
    refine r_iload_n hV rfl rfl (pc' := 27) rfl ?_
    refine tt_iadd hV rfl (pc' := 28) rfl ?_
    refine vtI (y := l1) (by clear h; omega) ?_
    refine r_aload_n hV rfl rfl (pc' := 29) rfl ?_
    refine tt_iconst hV rfl (pc' := 30) rfl ?_
    obtain ⟨v30, m30, h, hr⟩ := h
    refine tt_cv1I hV rfl rfl rfl (Wd_obj (hB _ _ rfl)) (Nat.le_of_ble_eq_true rfl) (Nat.le_of_ble_eq_true rfl) rfl hr (pc' := 33) rfl ?_
    obtain ⟨g6, h⟩ := h
    refine q_iast hV rfl (hB _ _ rfl) (Nat.le_of_ble_eq_true rfl) rfl g6 (pc' := 34) rfl ?_
    refine tt_iinc1 hV rfl rfl (pc' := 37) rfl ?_
    refine r_goto hV rfl (pc' := 13) (by decide) ?_
    exact h
theorem M_drawSession_77w {X : Cx} {d : Nat} {l1 : Int} {o2 : Option Int} {m : Mm} {Q : Mm → Prop} (hB : Bsh X.2.2.1) (h : M_isLast X d m (fun v78 m78 => (-2147483648 ≤ v78 ∧ v78 < 2147483648) ∧ (v78 ≠ 0 → Q m78) ∧ (v78 = 0 → M_passRow X d m78 (fun m85 => M_drawSession_77 X (d + 1) l1 o2 m85 Q)))) : M_drawSession_77 X (d + 1) l1 o2 m Q := by
  unfold M_drawSession_77
  have hV : Clo (gP X.1 X.2.1) (d + 1) 240 3 false (Ru0 (gP X.1 X.2.1) (d + 1) 240 X.2.2.1 X.2.2.2 Q) := Ru0_clo (q := mI240) rfl
  refine r_aload_n hV rfl rfl (pc' := 78) rfl ?_
  obtain ⟨v78, m78, h, hr⟩ := h
  refine tt_cv0I hV rfl rfl rfl (Wd_obj (hB _ _ rfl)) (Nat.le_of_ble_eq_true rfl) (Nat.le_of_ble_eq_true rfl) rfl hr (pc' := 81) rfl ?_
  obtain ⟨g7, h⟩ := h
  refine tt_if_ne hV rfl g7 (pt := 91) (by decide) (pf := 84) rfl (fun hc => ?_) (fun hc => ?_)
  · replace h := h.1 hc
    exact ru0_ret (q := mI240) rfl rfl rfl h
  · replace h := h.2 (Decidable.not_not.mp hc)
    refine r_aload_n hV rfl rfl (pc' := 85) rfl ?_
    obtain ⟨m85, h, hr⟩ := h
    refine tt_cv0U hV rfl rfl rfl (Wd_obj (hB _ _ rfl)) (Nat.le_of_ble_eq_true rfl) (Nat.le_of_ble_eq_true rfl) rfl hr (pc' := 88) rfl ?_
    refine r_goto hV rfl (pc' := 77) (by decide) ?_
    exact h
theorem M_sessionsw {X : Cx} {d : Nat} {x : Int} {y : Int} {m : Mm} {Q : Int → Mm → Prop} (hB : Bsh X.2.2.1) (h : (-2147483648 ≤ (m 83 28) ∧ (m 83 28) < 2147483648) ∧ (m 83 28 = 0 → Q (-1) m) ∧ (m 83 28 ≠ 0 → M_in X d x 1 20 m (fun v11 m11 => (-2147483648 ≤ v11 ∧ v11 < 2147483648) ∧ (v11 ≠ 0 → M_sessions_27 X (d + 1) x y 0 (up m11 83 37 y) Q) ∧ (v11 = 0 → Q (-1) m11)))) : M_sessions X (d + 1) x y m Q := by
  unfold M_sessions
  have hV : Clo (gP X.1 X.2.1) (d + 1) 241 5 false (Rq (gP X.1 X.2.1) (d + 1) 241 X.2.2.1 X.2.2.2 Q) := Rq_clo (q := mI241) rfl
  refine r_aload_n hV rfl rfl (pc' := 1) rfl ?_
  refine tt_getI hV (tg := 0) (ci := 12) (kf := 28) rfl rfl (by decide) (hB _ _ rfl) rfl (by decide) (pc' := 4) rfl ?_
  obtain ⟨g1, h⟩ := h
  refine tt_if_eq hV rfl g1 (pt := 17) (by decide) (pf := 7) rfl (fun hc => ?_) (fun hc => ?_)
  · replace h := h.1 hc
    refine tt_iconst hV rfl (pc' := 18) rfl ?_
    exact rq_ret (q := mI241) rfl rfl rfl h
  · replace h := h.2 hc
    refine r_iload_n hV rfl rfl (pc' := 8) rfl ?_
    refine tt_iconst hV rfl (pc' := 9) rfl ?_
    refine tt_bipush hV rfl (by decide) (pc' := 11) rfl ?_
    obtain ⟨v11, m11, h, hr⟩ := h
    refine tt_cs3I hV rfl rfl rfl (Nat.le_of_ble_eq_true rfl) (Nat.le_of_ble_eq_true rfl) rfl hr (pc' := 14) rfl ?_
    obtain ⟨g2, h⟩ := h
    refine tt_if_ne hV rfl g2 (pt := 19) (by decide) (pf := 17) rfl (fun hc => ?_) (fun hc => ?_)
    · replace h := h.1 hc
      refine r_aload_n hV rfl rfl (pc' := 20) rfl ?_
      refine r_lload_n hV rfl rfl (pc' := 21) rfl ?_
      refine tt_putJ hV (tg := 0) (ci := 12) (kf := 37) rfl rfl (Or.inl rfl) (hB _ _ rfl) rfl (by decide) rfl (pc' := 24) rfl ?_
      refine tt_iconst hV rfl (pc' := 25) rfl ?_
      refine tt_istore4 hV rfl rfl (pc' := 27) rfl ?_
      exact h
    · replace h := h.2 (Decidable.not_not.mp hc)
      refine tt_iconst hV rfl (pc' := 18) rfl ?_
      exact rq_ret (q := mI241) rfl rfl rfl h
theorem M_sessions_27w {X : Cx} {d : Nat} {x : Int} {y : Int} {l4 : Int} {m : Mm} {Q : Int → Mm → Prop} (hB : Bsh X.2.2.1) (h : (-2147483648 ≤ l4 ∧ l4 < 2147483648) ∧ (-2147483648 ≤ x ∧ x < 2147483648) ∧ (x ≤ l4 → Q (m 101 22) m) ∧ (l4 < x → M_keep X d m (fun m34 => M_drawSession X d m34 (fun m38 => M_sessions_27 X (d + 1) x y (l4 + 1) m38 Q)))) : M_sessions_27 X (d + 1) x y l4 m Q := by
  unfold M_sessions_27
  have hV : Clo (gP X.1 X.2.1) (d + 1) 241 5 false (Rq (gP X.1 X.2.1) (d + 1) 241 X.2.2.1 X.2.2.2 Q) := Rq_clo (q := mI241) rfl
  refine r_iload hV rfl rfl (pc' := 29) rfl ?_
  refine r_iload_n hV rfl rfl (pc' := 30) rfl ?_
  obtain ⟨g3, h⟩ := h
  obtain ⟨g4, h⟩ := h
  refine tt_icmp_ge hV rfl g3 g4 (pt := 47) (by decide) (pf := 33) rfl (fun hc => ?_) (fun hc => ?_)
  · replace h := h.1 hc
    refine r_aload_n hV rfl rfl (pc' := 48) rfl ?_
    refine tt_getR hV (tg := 6) (ci := 12) (kf := 30) rfl rfl (by decide) (hB _ _ rfl) rfl (by decide) (pc' := 51) rfl ?_
    refine tt_bipush hV rfl (by decide) (pc' := 53) rfl ?_
    refine q_iald hV rfl (hB _ _ rfl) (Nat.le_of_ble_eq_true rfl) rfl (by decide) (pc' := 54) rfl ?_
    exact rq_ret (q := mI241) rfl rfl rfl h
  · replace h := h.2 (Int.not_le.mp hc)
    refine r_aload_n hV rfl rfl (pc' := 34) rfl ?_
    obtain ⟨m34, h, hr⟩ := h
    refine tt_cv0U hV rfl rfl rfl (Wd_obj (hB _ _ rfl)) (Nat.le_of_ble_eq_true rfl) (Nat.le_of_ble_eq_true rfl) rfl hr (pc' := 37) rfl ?_
    refine r_aload_n hV rfl rfl (pc' := 38) rfl ?_
    obtain ⟨m38, h, hr⟩ := h
    refine tt_cv0U hV rfl rfl rfl (Wd_obj (hB _ _ rfl)) (Nat.le_of_ble_eq_true rfl) (Nat.le_of_ble_eq_true rfl) rfl hr (pc' := 41) rfl ?_
    refine tt_iinc4 hV rfl rfl (pc' := 44) rfl ?_
    refine r_goto hV rfl (pc' := 27) (by decide) ?_
    exact h
theorem M_statusw {X : Cx} {d : Nat} {x : Int} {m : Mm} {Q : Int → Mm → Prop} (hB : Bsh X.2.2.1) (h : M_in X d x 0 4 m (fun v3 m3 => (-2147483648 ≤ v3 ∧ v3 < 2147483648) ∧ (v3 = 0 → Q (-1) m3) ∧ (v3 ≠ 0 → (0 ≤ x ∧ x < 5) ∧ Q (m3 102 x) m3))) : M_status X (d + 1) x m Q := by
  unfold M_status
  have hV : Clo (gP X.1 X.2.1) (d + 1) 242 2 false (Rq (gP X.1 X.2.1) (d + 1) 242 X.2.2.1 X.2.2.2 Q) := Rq_clo (q := mI242) rfl
  refine r_iload_n hV rfl rfl (pc' := 1) rfl ?_
  refine tt_iconst hV rfl (pc' := 2) rfl ?_
  refine tt_iconst hV rfl (pc' := 3) rfl ?_
  obtain ⟨v3, m3, h, hr⟩ := h
  refine tt_cs3I hV rfl rfl rfl (Nat.le_of_ble_eq_true rfl) (Nat.le_of_ble_eq_true rfl) rfl hr (pc' := 6) rfl ?_
  obtain ⟨g1, h⟩ := h
  refine tt_if_eq hV rfl g1 (pt := 18) (by decide) (pf := 9) rfl (fun hc => ?_) (fun hc => ?_)
  · replace h := h.1 hc
    refine tt_iconst hV rfl (pc' := 19) rfl ?_
    exact rq_ret (q := mI242) rfl rfl rfl h
  · replace h := h.2 hc
    refine r_aload_n hV rfl rfl (pc' := 10) rfl ?_
    refine tt_getR hV (tg := 6) (ci := 12) (kf := 31) rfl rfl (by decide) (hB _ _ rfl) rfl (by decide) (pc' := 13) rfl ?_
    refine r_iload_n hV rfl rfl (pc' := 14) rfl ?_
    obtain ⟨g2, h⟩ := h
    refine q_iald hV rfl (hB _ _ rfl) (Nat.le_of_ble_eq_true rfl) rfl g2 (pc' := 15) rfl ?_
    refine r_goto hV rfl (pc' := 19) (by decide) ?_
    exact rq_ret (q := mI242) rfl rfl rfl h
theorem M_undow {X : Cx} {d : Nat} {m : Mm} {Q : Int → Mm → Prop} (hB : Bsh X.2.2.1) (h : (-2147483648 ≤ (m 83 36) ∧ (m 83 36) < 2147483648) ∧ (m 83 36 ≠ 0 → M_undo_21 X d 0 (up m 83 36 (m 83 36 - 1)) Q) ∧ (m 83 36 = 0 → Q (-1) m)) : M_undo X d m Q := by
  unfold M_undo
  have hV : Clo (gP X.1 X.2.1) d 243 2 false (Rq (gP X.1 X.2.1) d 243 X.2.2.1 X.2.2.2 Q) := Rq_clo (q := mI243) rfl
  refine r_aload_n hV rfl rfl (pc' := 1) rfl ?_
  refine tt_getI hV (tg := 0) (ci := 12) (kf := 36) rfl rfl (by decide) (hB _ _ rfl) rfl (by decide) (pc' := 4) rfl ?_
  obtain ⟨g1, h⟩ := h
  refine tt_if_ne hV rfl g1 (pt := 9) (by decide) (pf := 7) rfl (fun hc => ?_) (fun hc => ?_)
  · replace h := h.1 hc
    refine r_aload_n hV rfl rfl (pc' := 10) rfl ?_
    refine r_dup hV rfl rfl (pc' := 11) rfl ?_
    refine tt_getI hV (tg := 0) (ci := 12) (kf := 36) rfl rfl (by decide) (hB _ _ rfl) rfl (by decide) (pc' := 14) rfl ?_
    refine tt_iconst hV rfl (pc' := 15) rfl ?_
    refine tt_isub hV rfl (pc' := 16) rfl ?_
    refine tt_putI hV (tg := 0) (ci := 12) (kf := 36) rfl rfl (Or.inl rfl) (hB _ _ rfl) rfl (by decide) rfl (pc' := 19) rfl ?_
    refine tt_iconst hV rfl (pc' := 20) rfl ?_
    refine tt_istore1 hV rfl rfl (pc' := 21) rfl ?_
    exact h
  · replace h := h.2 (Decidable.not_not.mp hc)
    refine tt_iconst hV rfl (pc' := 8) rfl ?_
    exact rq_ret (q := mI243) rfl rfl rfl h
theorem M_undo_21w {X : Cx} {d : Nat} {l1 : Int} {m : Mm} {Q : Int → Mm → Prop} (hB : Bsh X.2.2.1) (h : (-2147483648 ≤ l1 ∧ l1 < 2147483648) ∧ (205 ≤ l1 → Q (m 83 36) m) ∧ (l1 < 205 → (0 ≤ 205 * (m 83 36) + l1 ∧ 205 * (m 83 36) + l1 < 8200) ∧ (0 ≤ l1 ∧ l1 < 205) ∧ M_undo_21 X d (l1 + 1) (up m 101 l1 (m 103 (205 * (m 83 36) + l1))) Q)) : M_undo_21 X d l1 m Q := by
  unfold M_undo_21
  have hV : Clo (gP X.1 X.2.1) d 243 2 false (Rq (gP X.1 X.2.1) d 243 X.2.2.1 X.2.2.2 Q) := Rq_clo (q := mI243) rfl
  refine r_iload_n hV rfl rfl (pc' := 22) rfl ?_
  refine tt_sipush hV rfl (by decide) (pc' := 25) rfl ?_
  obtain ⟨g2, h⟩ := h
  refine tt_icmp_ge hV rfl g2 (by decide) (pt := 55) (by decide) (pf := 28) rfl (fun hc => ?_) (fun hc => ?_)
  · replace h := h.1 hc
    refine r_aload_n hV rfl rfl (pc' := 56) rfl ?_
    refine tt_getI hV (tg := 0) (ci := 12) (kf := 36) rfl rfl (by decide) (hB _ _ rfl) rfl (by decide) (pc' := 59) rfl ?_
    exact rq_ret (q := mI243) rfl rfl rfl h
  · replace h := h.2 (Int.not_le.mp hc)
    refine r_aload_n hV rfl rfl (pc' := 29) rfl ?_
    refine tt_getR hV (tg := 6) (ci := 12) (kf := 30) rfl rfl (by decide) (hB _ _ rfl) rfl (by decide) (pc' := 32) rfl ?_
    refine r_iload_n hV rfl rfl (pc' := 33) rfl ?_
    refine r_aload_n hV rfl rfl (pc' := 34) rfl ?_
    refine tt_getR hV (tg := 6) (ci := 12) (kf := 35) rfl rfl (by decide) (hB _ _ rfl) rfl (by decide) (pc' := 37) rfl ?_
    refine tt_sipush hV rfl (by decide) (pc' := 40) rfl ?_
    refine r_aload_n hV rfl rfl (pc' := 41) rfl ?_
    refine tt_getI hV (tg := 0) (ci := 12) (kf := 36) rfl rfl (by decide) (hB _ _ rfl) rfl (by decide) (pc' := 44) rfl ?_
    refine tt_imul hV rfl (pc' := 45) rfl ?_
    refine vtI (y := 205 * (m 83 36)) (by clear h; omega) ?_
    refine r_iload_n hV rfl rfl (pc' := 46) rfl ?_
    refine tt_iadd hV rfl (pc' := 47) rfl ?_
    obtain ⟨g3, h⟩ := h
    refine q_iald hV rfl (hB _ _ rfl) (Nat.le_of_ble_eq_true rfl) rfl g3 (pc' := 48) rfl ?_
    obtain ⟨g4, h⟩ := h
    refine q_iast hV rfl (hB _ _ rfl) (Nat.le_of_ble_eq_true rfl) rfl g4 (pc' := 49) rfl ?_
    refine tt_iinc1 hV rfl rfl (pc' := 52) rfl ?_
    refine r_goto hV rfl (pc' := 21) (by decide) ?_
    exact h
theorem M_logw {X : Cx} {d : Nat} {x : Int} {y : Int} {m : Mm} {Q : Int → Mm → Prop} (hB : Bsh X.2.2.1) (h : M_in X d x 0 (m 101 24 - 1) m (fun v11 m11 => (-2147483648 ≤ v11 ∧ v11 < 2147483648) ∧ (v11 = 0 → Q (-1000000) m11) ∧ (v11 ≠ 0 → M_in X d y 0 2 m11 (fun v20 m20 => (-2147483648 ≤ v20 ∧ v20 < 2147483648) ∧ (v20 = 0 → Q (-1000000) m20) ∧ (v20 ≠ 0 → (0 ≤ 3 * (m20 101 24) - 3 * x + y + 22 ∧ 3 * (m20 101 24) - 3 * x + y + 22 < 205) ∧ Q (m20 101 (3 * (m20 101 24) - 3 * x + y + 22)) m20))))) : M_log X (d + 1) x y m Q := by
  unfold M_log
  have hV : Clo (gP X.1 X.2.1) (d + 1) 244 3 false (Rq (gP X.1 X.2.1) (d + 1) 244 X.2.2.1 X.2.2.2 Q) := Rq_clo (q := mI244) rfl
  refine r_iload_n hV rfl rfl (pc' := 1) rfl ?_
  refine tt_iconst hV rfl (pc' := 2) rfl ?_
  refine r_aload_n hV rfl rfl (pc' := 3) rfl ?_
  refine tt_getR hV (tg := 6) (ci := 12) (kf := 30) rfl rfl (by decide) (hB _ _ rfl) rfl (by decide) (pc' := 6) rfl ?_
  refine tt_bipush hV rfl (by decide) (pc' := 8) rfl ?_
  refine q_iald hV rfl (hB _ _ rfl) (Nat.le_of_ble_eq_true rfl) rfl (by decide) (pc' := 9) rfl ?_
  refine tt_iconst hV rfl (pc' := 10) rfl ?_
  refine tt_isub hV rfl (pc' := 11) rfl ?_
  obtain ⟨v11, m11, h, hr⟩ := h
  refine tt_cs3I hV rfl rfl rfl (Nat.le_of_ble_eq_true rfl) (Nat.le_of_ble_eq_true rfl) rfl hr (pc' := 14) rfl ?_
  obtain ⟨g1, h⟩ := h
  refine tt_if_eq hV rfl g1 (pt := 52) (by decide) (pf := 17) rfl (fun hc => ?_) (fun hc => ?_)
  · replace h := h.1 hc
    refine v_ldcw hV (Int32.ofInt (-1000000)) rfl rfl rfl (pc' := 55) rfl ?_
    exact rq_ret (q := mI244) rfl rfl rfl h
  · replace h := h.2 hc
    refine r_iload_n hV rfl rfl (pc' := 18) rfl ?_
    refine tt_iconst hV rfl (pc' := 19) rfl ?_
    refine tt_iconst hV rfl (pc' := 20) rfl ?_
    obtain ⟨v20, m20, h, hr⟩ := h
    refine tt_cs3I hV rfl rfl rfl (Nat.le_of_ble_eq_true rfl) (Nat.le_of_ble_eq_true rfl) rfl hr (pc' := 23) rfl ?_
    obtain ⟨g2, h⟩ := h
    refine tt_if_eq hV rfl g2 (pt := 52) (by decide) (pf := 26) rfl (fun hc => ?_) (fun hc => ?_)
    · replace h := h.1 hc
      refine v_ldcw hV (Int32.ofInt (-1000000)) rfl rfl rfl (pc' := 55) rfl ?_
      exact rq_ret (q := mI244) rfl rfl rfl h
    · replace h := h.2 hc
      refine r_aload_n hV rfl rfl (pc' := 27) rfl ?_
      refine tt_getR hV (tg := 6) (ci := 12) (kf := 30) rfl rfl (by decide) (hB _ _ rfl) rfl (by decide) (pc' := 30) rfl ?_
      refine tt_bipush hV rfl (by decide) (pc' := 32) rfl ?_
      refine tt_iconst hV rfl (pc' := 33) rfl ?_
      refine r_aload_n hV rfl rfl (pc' := 34) rfl ?_
      refine tt_getR hV (tg := 6) (ci := 12) (kf := 30) rfl rfl (by decide) (hB _ _ rfl) rfl (by decide) (pc' := 37) rfl ?_
      refine tt_bipush hV rfl (by decide) (pc' := 39) rfl ?_
      refine q_iald hV rfl (hB _ _ rfl) (Nat.le_of_ble_eq_true rfl) rfl (by decide) (pc' := 40) rfl ?_
      refine tt_iconst hV rfl (pc' := 41) rfl ?_
      refine tt_isub hV rfl (pc' := 42) rfl ?_
      refine r_iload_n hV rfl rfl (pc' := 43) rfl ?_
      refine tt_isub hV rfl (pc' := 44) rfl ?_
      refine vtI (y := m20 101 24 - x - 1) (by clear h; omega) ?_
      refine tt_imul hV rfl (pc' := 45) rfl ?_
      refine vtI (y := 3 * (m20 101 24) - 3 * x - 3) (by clear h; omega) ?_
      refine tt_iadd hV rfl (pc' := 46) rfl ?_
      refine vtI (y := 3 * (m20 101 24) - 3 * x + 22) (by clear h; omega) ?_
      refine r_iload_n hV rfl rfl (pc' := 47) rfl ?_
      refine tt_iadd hV rfl (pc' := 48) rfl ?_
      refine vtI (y := 3 * (m20 101 24) - 3 * x + y + 22) (by clear h; omega) ?_
      obtain ⟨g3, h⟩ := h
      refine q_iald hV rfl (hB _ _ rfl) (Nat.le_of_ble_eq_true rfl) rfl g3 (pc' := 49) rfl ?_
      refine r_goto hV rfl (pc' := 55) (by decide) ?_
      exact rq_ret (q := mI244) rfl rfl rfl h
theorem M_putAsidew {X : Cx} {d : Nat} {m : Mm} {Q : Mm → Prop} (hB : Bsh X.2.2.1) (h : M_putAside_2 X d 0 m Q) : M_putAside X d m Q := by
  unfold M_putAside
  have hV : Clo (gP X.1 X.2.1) d 245 2 false (Ru0 (gP X.1 X.2.1) d 245 X.2.2.1 X.2.2.2 Q) := Ru0_clo (q := mI245) rfl
  refine tt_iconst hV rfl (pc' := 1) rfl ?_
  refine tt_istore1 hV rfl rfl (pc' := 2) rfl ?_
  exact h
theorem M_putAside_2w {X : Cx} {d : Nat} {l1 : Int} {m : Mm} {Q : Mm → Prop} (hB : Bsh X.2.2.1) (h : (-2147483648 ≤ l1 ∧ l1 < 2147483648) ∧ (24 ≤ l1 → Q (up m 83 34 0)) ∧ (l1 < 24 → (0 ≤ l1 ∧ l1 < 205) ∧ (0 ≤ l1 ∧ l1 < 24) ∧ M_putAside_2 X d (l1 + 1) (up m 104 l1 (m 101 l1)) Q)) : M_putAside_2 X d l1 m Q := by
  unfold M_putAside_2
  have hV : Clo (gP X.1 X.2.1) d 245 2 false (Ru0 (gP X.1 X.2.1) d 245 X.2.2.1 X.2.2.2 Q) := Ru0_clo (q := mI245) rfl
  refine r_iload_n hV rfl rfl (pc' := 3) rfl ?_
  refine tt_bipush hV rfl (by decide) (pc' := 5) rfl ?_
  obtain ⟨g1, h⟩ := h
  refine tt_icmp_ge hV rfl g1 (by decide) (pt := 26) (by decide) (pf := 8) rfl (fun hc => ?_) (fun hc => ?_)
  · replace h := h.1 hc
    refine r_aload_n hV rfl rfl (pc' := 27) rfl ?_
    refine tt_iconst hV rfl (pc' := 28) rfl ?_
    refine tt_putI hV (tg := 0) (ci := 12) (kf := 34) rfl rfl (Or.inl rfl) (hB _ _ rfl) rfl (by decide) rfl (pc' := 31) rfl ?_
    exact ru0_ret (q := mI245) rfl rfl rfl h
  · replace h := h.2 (Int.not_le.mp hc)
    refine r_aload_n hV rfl rfl (pc' := 9) rfl ?_
    refine tt_getR hV (tg := 6) (ci := 12) (kf := 38) rfl rfl (by decide) (hB _ _ rfl) rfl (by decide) (pc' := 12) rfl ?_
    refine r_iload_n hV rfl rfl (pc' := 13) rfl ?_
    refine r_aload_n hV rfl rfl (pc' := 14) rfl ?_
    refine tt_getR hV (tg := 6) (ci := 12) (kf := 30) rfl rfl (by decide) (hB _ _ rfl) rfl (by decide) (pc' := 17) rfl ?_
    refine r_iload_n hV rfl rfl (pc' := 18) rfl ?_
    obtain ⟨g2, h⟩ := h
    refine q_iald hV rfl (hB _ _ rfl) (Nat.le_of_ble_eq_true rfl) rfl g2 (pc' := 19) rfl ?_
    obtain ⟨g3, h⟩ := h
    refine q_iast hV rfl (hB _ _ rfl) (Nat.le_of_ble_eq_true rfl) rfl g3 (pc' := 20) rfl ?_
    refine tt_iinc1 hV rfl rfl (pc' := 23) rfl ?_
    refine r_goto hV rfl (pc' := 2) (by decide) ?_
    exact h
theorem M_takeBackw {X : Cx} {d : Nat} {m : Mm} {Q : Mm → Prop} (hB : Bsh X.2.2.1) (h : M_takeBack_2 X d 0 m Q) : M_takeBack X d m Q := by
  unfold M_takeBack
  have hV : Clo (gP X.1 X.2.1) d 246 2 false (Ru0 (gP X.1 X.2.1) d 246 X.2.2.1 X.2.2.2 Q) := Ru0_clo (q := mI246) rfl
  refine tt_iconst hV rfl (pc' := 1) rfl ?_
  refine tt_istore1 hV rfl rfl (pc' := 2) rfl ?_
  exact h
theorem M_takeBack_2w {X : Cx} {d : Nat} {l1 : Int} {m : Mm} {Q : Mm → Prop} (hB : Bsh X.2.2.1) (h : (-2147483648 ≤ l1 ∧ l1 < 2147483648) ∧ (24 ≤ l1 → Q m) ∧ (l1 < 24 → (0 ≤ l1 ∧ l1 < 24) ∧ (0 ≤ l1 ∧ l1 < 205) ∧ M_takeBack_2 X d (l1 + 1) (up m 101 l1 (m 104 l1)) Q)) : M_takeBack_2 X d l1 m Q := by
  unfold M_takeBack_2
  have hV : Clo (gP X.1 X.2.1) d 246 2 false (Ru0 (gP X.1 X.2.1) d 246 X.2.2.1 X.2.2.2 Q) := Ru0_clo (q := mI246) rfl
  refine r_iload_n hV rfl rfl (pc' := 3) rfl ?_
  refine tt_bipush hV rfl (by decide) (pc' := 5) rfl ?_
  obtain ⟨g1, h⟩ := h
  refine tt_icmp_ge hV rfl g1 (by decide) (pt := 26) (by decide) (pf := 8) rfl (fun hc => ?_) (fun hc => ?_)
  · replace h := h.1 hc
    exact ru0_ret (q := mI246) rfl rfl rfl h
  · replace h := h.2 (Int.not_le.mp hc)
    refine r_aload_n hV rfl rfl (pc' := 9) rfl ?_
    refine tt_getR hV (tg := 6) (ci := 12) (kf := 30) rfl rfl (by decide) (hB _ _ rfl) rfl (by decide) (pc' := 12) rfl ?_
    refine r_iload_n hV rfl rfl (pc' := 13) rfl ?_
    refine r_aload_n hV rfl rfl (pc' := 14) rfl ?_
    refine tt_getR hV (tg := 6) (ci := 12) (kf := 38) rfl rfl (by decide) (hB _ _ rfl) rfl (by decide) (pc' := 17) rfl ?_
    refine r_iload_n hV rfl rfl (pc' := 18) rfl ?_
    obtain ⟨g2, h⟩ := h
    refine q_iald hV rfl (hB _ _ rfl) (Nat.le_of_ble_eq_true rfl) rfl g2 (pc' := 19) rfl ?_
    obtain ⟨g3, h⟩ := h
    refine q_iast hV rfl (hB _ _ rfl) (Nat.le_of_ble_eq_true rfl) rfl g3 (pc' := 20) rfl ?_
    refine tt_iinc1 hV rfl rfl (pc' := 23) rfl ?_
    refine r_goto hV rfl (pc' := 2) (by decide) ?_
    exact h
theorem M_layEndw {X : Cx} {d : Nat} {m : Mm} {Q : Mm → Prop} (hB : Bsh X.2.2.1) (h : M_slideDown X d m (fun m1 => M_takeBack X d (up (up m1 83 39 (m1 101 22)) 83 40 (m1 101 18)) (fun m27 => Q m27))) : M_layEnd X (d + 1) m Q := by
  unfold M_layEnd
  have hV : Clo (gP X.1 X.2.1) (d + 1) 247 1 false (Ru0 (gP X.1 X.2.1) (d + 1) 247 X.2.2.1 X.2.2.2 Q) := Ru0_clo (q := mI247) rfl
  refine r_aload_n hV rfl rfl (pc' := 1) rfl ?_
  obtain ⟨m1, h, hr⟩ := h
  refine tt_cv0U hV rfl rfl rfl (Wd_obj (hB _ _ rfl)) (Nat.le_of_ble_eq_true rfl) (Nat.le_of_ble_eq_true rfl) rfl hr (pc' := 4) rfl ?_
  refine r_aload_n hV rfl rfl (pc' := 5) rfl ?_
  refine r_aload_n hV rfl rfl (pc' := 6) rfl ?_
  refine tt_getR hV (tg := 6) (ci := 12) (kf := 30) rfl rfl (by decide) (hB _ _ rfl) rfl (by decide) (pc' := 9) rfl ?_
  refine tt_bipush hV rfl (by decide) (pc' := 11) rfl ?_
  refine q_iald hV rfl (hB _ _ rfl) (Nat.le_of_ble_eq_true rfl) rfl (by decide) (pc' := 12) rfl ?_
  refine tt_putI hV (tg := 0) (ci := 12) (kf := 39) rfl rfl (Or.inl rfl) (hB _ _ rfl) rfl (by decide) rfl (pc' := 15) rfl ?_
  refine r_aload_n hV rfl rfl (pc' := 16) rfl ?_
  refine r_aload_n hV rfl rfl (pc' := 17) rfl ?_
  refine tt_getR hV (tg := 6) (ci := 12) (kf := 30) rfl rfl (by decide) (hB _ _ rfl) rfl (by decide) (pc' := 20) rfl ?_
  refine tt_bipush hV rfl (by decide) (pc' := 22) rfl ?_
  refine q_iald hV rfl (hB _ _ rfl) (Nat.le_of_ble_eq_true rfl) rfl (by decide) (pc' := 23) rfl ?_
  refine vtI (y := m1 101 18) (up_ne (Or.inl (by decide))) ?_
  refine tt_putI hV (tg := 0) (ci := 12) (kf := 40) rfl rfl (Or.inl rfl) (hB _ _ rfl) rfl (by decide) rfl (pc' := 26) rfl ?_
  refine r_aload_n hV rfl rfl (pc' := 27) rfl ?_
  obtain ⟨m27, h, hr⟩ := h
  refine tt_cv0U hV rfl rfl rfl (Wd_obj (hB _ _ rfl)) (Nat.le_of_ble_eq_true rfl) (Nat.le_of_ble_eq_true rfl) rfl hr (pc' := 30) rfl ?_
  exact ru0_ret (q := mI247) rfl rfl rfl h
theorem M_endsw {X : Cx} {d : Nat} {x : Int} {m : Mm} {Q : Int → Mm → Prop} (hB : Bsh X.2.2.1) (h : (-2147483648 ≤ (m 83 28) ∧ (m 83 28) < 2147483648) ∧ (m 83 28 = 0 → Q (-1) m) ∧ (m 83 28 ≠ 0 → M_in X d x 0 2 m (fun v10 m10 => (-2147483648 ≤ v10 ∧ v10 < 2147483648) ∧ (v10 ≠ 0 → M_putAside X d m10 (fun m19 => M_layEnd X d m19 (fun m23 => (-2147483648 ≤ x ∧ x < 2147483648) ∧ (x ≠ 0 → (x ≠ 1 → Q (m23 83 40) m23) ∧ (x = 1 → M_sideOf X d (m23 83 39) m23 (fun v47 m47 => Q v47 m47))) ∧ (x = 0 → Q (m23 83 39) m23)))) ∧ (v10 = 0 → Q (-1) m10)))) : M_ends X (d + 1) x m Q := by
  unfold M_ends
  have hV : Clo (gP X.1 X.2.1) (d + 1) 248 2 false (Rq (gP X.1 X.2.1) (d + 1) 248 X.2.2.1 X.2.2.2 Q) := Rq_clo (q := mI248) rfl
  refine r_aload_n hV rfl rfl (pc' := 1) rfl ?_
  refine tt_getI hV (tg := 0) (ci := 12) (kf := 28) rfl rfl (by decide) (hB _ _ rfl) rfl (by decide) (pc' := 4) rfl ?_
  obtain ⟨g1, h⟩ := h
  refine tt_if_eq hV rfl g1 (pt := 16) (by decide) (pf := 7) rfl (fun hc => ?_) (fun hc => ?_)
  · replace h := h.1 hc
    refine tt_iconst hV rfl (pc' := 17) rfl ?_
    exact rq_ret (q := mI248) rfl rfl rfl h
  · replace h := h.2 hc
    refine r_iload_n hV rfl rfl (pc' := 8) rfl ?_
    refine tt_iconst hV rfl (pc' := 9) rfl ?_
    refine tt_iconst hV rfl (pc' := 10) rfl ?_
    obtain ⟨v10, m10, h, hr⟩ := h
    refine tt_cs3I hV rfl rfl rfl (Nat.le_of_ble_eq_true rfl) (Nat.le_of_ble_eq_true rfl) rfl hr (pc' := 13) rfl ?_
    obtain ⟨g2, h⟩ := h
    refine tt_if_ne hV rfl g2 (pt := 18) (by decide) (pf := 16) rfl (fun hc => ?_) (fun hc => ?_)
    · replace h := h.1 hc
      refine r_aload_n hV rfl rfl (pc' := 19) rfl ?_
      obtain ⟨m19, h, hr⟩ := h
      refine tt_cv0U hV rfl rfl rfl (Wd_obj (hB _ _ rfl)) (Nat.le_of_ble_eq_true rfl) (Nat.le_of_ble_eq_true rfl) rfl hr (pc' := 22) rfl ?_
      refine r_aload_n hV rfl rfl (pc' := 23) rfl ?_
      obtain ⟨m23, h, hr⟩ := h
      refine tt_cv0U hV rfl rfl rfl (Wd_obj (hB _ _ rfl)) (Nat.le_of_ble_eq_true rfl) (Nat.le_of_ble_eq_true rfl) rfl hr (pc' := 26) rfl ?_
      refine r_iload_n hV rfl rfl (pc' := 27) rfl ?_
      obtain ⟨g3, h⟩ := h
      refine tt_if_ne hV rfl g3 (pt := 37) (by decide) (pf := 30) rfl (fun hc => ?_) (fun hc => ?_)
      · replace h := h.1 hc
        refine r_iload_n hV rfl rfl (pc' := 38) rfl ?_
        refine tt_iconst hV rfl (pc' := 39) rfl ?_
        refine tt_icmp_ne hV rfl g3 (by decide) (pt := 53) (by decide) (pf := 42) rfl (fun hc => ?_) (fun hc => ?_)
        · replace h := h.1 hc
          refine r_aload_n hV rfl rfl (pc' := 54) rfl ?_
          refine tt_getI hV (tg := 0) (ci := 12) (kf := 40) rfl rfl (by decide) (hB _ _ rfl) rfl (by decide) (pc' := 57) rfl ?_
          exact rq_ret (q := mI248) rfl rfl rfl h
        · replace h := h.2 (Decidable.not_not.mp hc)
          refine r_aload_n hV rfl rfl (pc' := 43) rfl ?_
          refine r_aload_n hV rfl rfl (pc' := 44) rfl ?_
          refine tt_getI hV (tg := 0) (ci := 12) (kf := 39) rfl rfl (by decide) (hB _ _ rfl) rfl (by decide) (pc' := 47) rfl ?_
          obtain ⟨v47, m47, h, hr⟩ := h
          refine tt_cv1I hV rfl rfl rfl (Wd_obj (hB _ _ rfl)) (Nat.le_of_ble_eq_true rfl) (Nat.le_of_ble_eq_true rfl) rfl hr (pc' := 50) rfl ?_
          refine r_goto hV rfl (pc' := 57) (by decide) ?_
          exact rq_ret (q := mI248) rfl rfl rfl h
      · replace h := h.2 (Decidable.not_not.mp hc)
        refine r_aload_n hV rfl rfl (pc' := 31) rfl ?_
        refine tt_getI hV (tg := 0) (ci := 12) (kf := 39) rfl rfl (by decide) (hB _ _ rfl) rfl (by decide) (pc' := 34) rfl ?_
        refine r_goto hV rfl (pc' := 57) (by decide) ?_
        exact rq_ret (q := mI248) rfl rfl rfl h
    · replace h := h.2 (Decidable.not_not.mp hc)
      refine tt_iconst hV rfl (pc' := 17) rfl ?_
      exact rq_ret (q := mI248) rfl rfl rfl h
theorem M_aheadw {X : Cx} {d : Nat} {x : Int} {m : Mm} {Q : Int → Mm → Prop} (hB : Bsh X.2.2.1) (h : (-2147483648 ≤ (m 83 28) ∧ (m 83 28) < 2147483648) ∧ (m 83 28 = 0 → Q (-1) m) ∧ (m 83 28 ≠ 0 → M_in X d x 0 20 m (fun v11 m11 => (-2147483648 ≤ v11 ∧ v11 < 2147483648) ∧ (v11 ≠ 0 → M_putAside X d m11 (fun m20 => M_ahead_25 X (d + 1) x 0 m20 Q)) ∧ (v11 = 0 → Q (-1) m11)))) : M_ahead X (d + 1) x m Q := by
  unfold M_ahead
  have hV : Clo (gP X.1 X.2.1) (d + 1) 249 3 false (Rq (gP X.1 X.2.1) (d + 1) 249 X.2.2.1 X.2.2.2 Q) := Rq_clo (q := mI249) rfl
  refine r_aload_n hV rfl rfl (pc' := 1) rfl ?_
  refine tt_getI hV (tg := 0) (ci := 12) (kf := 28) rfl rfl (by decide) (hB _ _ rfl) rfl (by decide) (pc' := 4) rfl ?_
  obtain ⟨g1, h⟩ := h
  refine tt_if_eq hV rfl g1 (pt := 17) (by decide) (pf := 7) rfl (fun hc => ?_) (fun hc => ?_)
  · replace h := h.1 hc
    refine tt_iconst hV rfl (pc' := 18) rfl ?_
    exact rq_ret (q := mI249) rfl rfl rfl h
  · replace h := h.2 hc
    refine r_iload_n hV rfl rfl (pc' := 8) rfl ?_
    refine tt_iconst hV rfl (pc' := 9) rfl ?_
    refine tt_bipush hV rfl (by decide) (pc' := 11) rfl ?_
    obtain ⟨v11, m11, h, hr⟩ := h
    refine tt_cs3I hV rfl rfl rfl (Nat.le_of_ble_eq_true rfl) (Nat.le_of_ble_eq_true rfl) rfl hr (pc' := 14) rfl ?_
    obtain ⟨g2, h⟩ := h
    refine tt_if_ne hV rfl g2 (pt := 19) (by decide) (pf := 17) rfl (fun hc => ?_) (fun hc => ?_)
    · replace h := h.1 hc
      refine r_aload_n hV rfl rfl (pc' := 20) rfl ?_
      obtain ⟨m20, h, hr⟩ := h
      refine tt_cv0U hV rfl rfl rfl (Wd_obj (hB _ _ rfl)) (Nat.le_of_ble_eq_true rfl) (Nat.le_of_ble_eq_true rfl) rfl hr (pc' := 23) rfl ?_
      refine tt_iconst hV rfl (pc' := 24) rfl ?_
      refine tt_istore2 hV rfl rfl (pc' := 25) rfl ?_
      exact h
    · replace h := h.2 (Decidable.not_not.mp hc)
      refine tt_iconst hV rfl (pc' := 18) rfl ?_
      exact rq_ret (q := mI249) rfl rfl rfl h
theorem M_ahead_25w {X : Cx} {d : Nat} {x : Int} {l2 : Int} {m : Mm} {Q : Int → Mm → Prop} (hB : Bsh X.2.2.1) (h : (-2147483648 ≤ l2 ∧ l2 < 2147483648) ∧ (-2147483648 ≤ x ∧ x < 2147483648) ∧ (x ≤ l2 → M_ahead_48 X (d + 1) x l2 m Q) ∧ (l2 < x → M_isLast X d m (fun v31 m31 => (-2147483648 ≤ v31 ∧ v31 < 2147483648) ∧ (v31 ≠ 0 → M_ahead_48 X (d + 1) x l2 m31 Q) ∧ (v31 = 0 → M_slide X d m31 (fun v38 m38 => M_ahead_25 X (d + 1) x (l2 + 1) m38 Q))))) : M_ahead_25 X (d + 1) x l2 m Q := by
  unfold M_ahead_25
  have hV : Clo (gP X.1 X.2.1) (d + 1) 249 3 false (Rq (gP X.1 X.2.1) (d + 1) 249 X.2.2.1 X.2.2.2 Q) := Rq_clo (q := mI249) rfl
  refine r_iload_n hV rfl rfl (pc' := 26) rfl ?_
  refine r_iload_n hV rfl rfl (pc' := 27) rfl ?_
  obtain ⟨g3, h⟩ := h
  obtain ⟨g4, h⟩ := h
  refine tt_icmp_ge hV rfl g3 g4 (pt := 48) (by decide) (pf := 30) rfl (fun hc => ?_) (fun hc => ?_)
  · replace h := h.1 hc
    exact h
  · replace h := h.2 (Int.not_le.mp hc)
    refine r_aload_n hV rfl rfl (pc' := 31) rfl ?_
    obtain ⟨v31, m31, h, hr⟩ := h
    refine tt_cv0I hV rfl rfl rfl (Wd_obj (hB _ _ rfl)) (Nat.le_of_ble_eq_true rfl) (Nat.le_of_ble_eq_true rfl) rfl hr (pc' := 34) rfl ?_
    obtain ⟨g5, h⟩ := h
    refine tt_if_ne hV rfl g5 (pt := 48) (by decide) (pf := 37) rfl (fun hc => ?_) (fun hc => ?_)
    · replace h := h.1 hc
      exact h
    · replace h := h.2 (Decidable.not_not.mp hc)
      refine r_aload_n hV rfl rfl (pc' := 38) rfl ?_
      obtain ⟨v38, m38, h, hr⟩ := h
      refine tt_cv0I hV rfl rfl rfl (Wd_obj (hB _ _ rfl)) (Nat.le_of_ble_eq_true rfl) (Nat.le_of_ble_eq_true rfl) rfl hr (pc' := 41) rfl ?_
      refine r_pop hV rfl rfl (pc' := 42) rfl ?_
      refine tt_iinc2 hV rfl rfl (pc' := 45) rfl ?_
      refine r_goto hV rfl (pc' := 25) (by decide) ?_
      exact h
theorem M_ahead_48w {X : Cx} {d : Nat} {x : Int} {l2 : Int} {m : Mm} {Q : Int → Mm → Prop} (hB : Bsh X.2.2.1) (h : M_takeBack X d m (fun m57 => Q (m 101 22) m57)) : M_ahead_48 X (d + 1) x l2 m Q := by
  unfold M_ahead_48
  have hV : Clo (gP X.1 X.2.1) (d + 1) 249 3 false (Rq (gP X.1 X.2.1) (d + 1) 249 X.2.2.1 X.2.2.2 Q) := Rq_clo (q := mI249) rfl
  refine r_aload_n hV rfl rfl (pc' := 49) rfl ?_
  refine tt_getR hV (tg := 6) (ci := 12) (kf := 30) rfl rfl (by decide) (hB _ _ rfl) rfl (by decide) (pc' := 52) rfl ?_
  refine tt_bipush hV rfl (by decide) (pc' := 54) rfl ?_
  refine q_iald hV rfl (hB _ _ rfl) (Nat.le_of_ble_eq_true rfl) rfl (by decide) (pc' := 55) rfl ?_
  refine tt_istore2 hV rfl rfl (pc' := 56) rfl ?_
  refine r_aload_n hV rfl rfl (pc' := 57) rfl ?_
  obtain ⟨m57, h, hr⟩ := h
  refine tt_cv0U hV rfl rfl rfl (Wd_obj (hB _ _ rfl)) (Nat.le_of_ble_eq_true rfl) (Nat.le_of_ble_eq_true rfl) rfl hr (pc' := 60) rfl ?_
  refine r_iload_n hV rfl rfl (pc' := 61) rfl ?_
  exact rq_ret (q := mI249) rfl rfl rfl h
theorem M_tryRoww {X : Cx} {d : Nat} {x : Int} {y : Int} {m : Mm} {Q : Mm → Prop} (hB : Bsh X.2.2.1) (h : (-2147483648 ≤ (m 83 41) ∧ (m 83 41) < 2147483648) ∧ (m 83 41 = -1 → Q (up (up m 83 41 x) 83 42 y)) ∧ (m 83 41 ≠ -1 → (-2147483648 ≤ y ∧ y < 2147483648) ∧ (-2147483648 ≤ (m 83 42) ∧ (m 83 42) < 2147483648) ∧ (y < m 83 42 → Q (up (up m 83 41 x) 83 42 y)) ∧ (m 83 42 ≤ y → (y ≠ m 83 42 → Q m) ∧ (y = m 83 42 → (-2147483648 ≤ x ∧ x < 2147483648) ∧ (m 83 41 ≤ x → Q m) ∧ (x < m 83 41 → Q (up (up m 83 41 x) 83 42 y)))))) : M_tryRow X d x y m Q := by
  unfold M_tryRow
  have hV : Clo (gP X.1 X.2.1) d 250 3 false (Ru0 (gP X.1 X.2.1) d 250 X.2.2.1 X.2.2.2 Q) := Ru0_clo (q := mI250) rfl
  refine r_aload_n hV rfl rfl (pc' := 1) rfl ?_
  refine tt_getI hV (tg := 0) (ci := 12) (kf := 41) rfl rfl (by decide) (hB _ _ rfl) rfl (by decide) (pc' := 4) rfl ?_
  refine tt_iconst hV rfl (pc' := 5) rfl ?_
  obtain ⟨g1, h⟩ := h
  refine tt_icmp_eq hV rfl g1 (by decide) (pt := 32) (by decide) (pf := 8) rfl (fun hc => ?_) (fun hc => ?_)
  · replace h := h.1 hc
    refine r_aload_n hV rfl rfl (pc' := 33) rfl ?_
    refine r_iload_n hV rfl rfl (pc' := 34) rfl ?_
    refine tt_putI hV (tg := 0) (ci := 12) (kf := 41) rfl rfl (Or.inl rfl) (hB _ _ rfl) rfl (by decide) rfl (pc' := 37) rfl ?_
    refine r_aload_n hV rfl rfl (pc' := 38) rfl ?_
    refine r_iload_n hV rfl rfl (pc' := 39) rfl ?_
    refine tt_putI hV (tg := 0) (ci := 12) (kf := 42) rfl rfl (Or.inl rfl) (hB _ _ rfl) rfl (by decide) rfl (pc' := 42) rfl ?_
    exact ru0_ret (q := mI250) rfl rfl rfl h
  · replace h := h.2 hc
    refine r_iload_n hV rfl rfl (pc' := 9) rfl ?_
    refine r_aload_n hV rfl rfl (pc' := 10) rfl ?_
    refine tt_getI hV (tg := 0) (ci := 12) (kf := 42) rfl rfl (by decide) (hB _ _ rfl) rfl (by decide) (pc' := 13) rfl ?_
    obtain ⟨g2, h⟩ := h
    obtain ⟨g3, h⟩ := h
    refine tt_icmp_lt hV rfl g2 g3 (pt := 32) (by decide) (pf := 16) rfl (fun hc => ?_) (fun hc => ?_)
    · replace h := h.1 hc
      refine r_aload_n hV rfl rfl (pc' := 33) rfl ?_
      refine r_iload_n hV rfl rfl (pc' := 34) rfl ?_
      refine tt_putI hV (tg := 0) (ci := 12) (kf := 41) rfl rfl (Or.inl rfl) (hB _ _ rfl) rfl (by decide) rfl (pc' := 37) rfl ?_
      refine r_aload_n hV rfl rfl (pc' := 38) rfl ?_
      refine r_iload_n hV rfl rfl (pc' := 39) rfl ?_
      refine tt_putI hV (tg := 0) (ci := 12) (kf := 42) rfl rfl (Or.inl rfl) (hB _ _ rfl) rfl (by decide) rfl (pc' := 42) rfl ?_
      exact ru0_ret (q := mI250) rfl rfl rfl h
    · replace h := h.2 (Int.not_lt.mp hc)
      refine r_iload_n hV rfl rfl (pc' := 17) rfl ?_
      refine r_aload_n hV rfl rfl (pc' := 18) rfl ?_
      refine tt_getI hV (tg := 0) (ci := 12) (kf := 42) rfl rfl (by decide) (hB _ _ rfl) rfl (by decide) (pc' := 21) rfl ?_
      refine tt_icmp_ne hV rfl g2 g3 (pt := 42) (by decide) (pf := 24) rfl (fun hc => ?_) (fun hc => ?_)
      · replace h := h.1 hc
        exact ru0_ret (q := mI250) rfl rfl rfl h
      · replace h := h.2 (Decidable.not_not.mp hc)
        refine r_iload_n hV rfl rfl (pc' := 25) rfl ?_
        refine r_aload_n hV rfl rfl (pc' := 26) rfl ?_
        refine tt_getI hV (tg := 0) (ci := 12) (kf := 41) rfl rfl (by decide) (hB _ _ rfl) rfl (by decide) (pc' := 29) rfl ?_
        obtain ⟨g4, h⟩ := h
        refine tt_icmp_ge hV rfl g4 g1 (pt := 42) (by decide) (pf := 32) rfl (fun hc => ?_) (fun hc => ?_)
        · replace h := h.1 hc
          exact ru0_ret (q := mI250) rfl rfl rfl h
        · replace h := h.2 (Int.not_le.mp hc)
          refine r_aload_n hV rfl rfl (pc' := 33) rfl ?_
          refine r_iload_n hV rfl rfl (pc' := 34) rfl ?_
          refine tt_putI hV (tg := 0) (ci := 12) (kf := 41) rfl rfl (Or.inl rfl) (hB _ _ rfl) rfl (by decide) rfl (pc' := 37) rfl ?_
          refine r_aload_n hV rfl rfl (pc' := 38) rfl ?_
          refine r_iload_n hV rfl rfl (pc' := 39) rfl ?_
          refine tt_putI hV (tg := 0) (ci := 12) (kf := 42) rfl rfl (Or.inl rfl) (hB _ _ rfl) rfl (by decide) rfl (pc' := 42) rfl ?_
          exact ru0_ret (q := mI250) rfl rfl rfl h
theorem M_tryLeansw {X : Cx} {d : Nat} {x : Int} {y : Int} {z : Int} {u : Int} {m : Mm} {Q : Mm → Prop} (hB : Bsh X.2.2.1) (h : (-2147483648 ≤ x ∧ x < 2147483648) ∧ (-2147483648 ≤ (m 83 28) ∧ (m 83 28) < 2147483648) ∧ (x ≠ m 83 28 → M_tryLeans_73 X (d + 1) x y z u 0 m Q) ∧ (x = m 83 28 → M_putAside X d m (fun m9 => M_tryLeans_15 X (d + 1) x y z u 0 m9 Q))) : M_tryLeans X (d + 1) x y z u m Q := by
  unfold M_tryLeans
  have hV : Clo (gP X.1 X.2.1) (d + 1) 251 6 false (Ru0 (gP X.1 X.2.1) (d + 1) 251 X.2.2.1 X.2.2.2 Q) := Ru0_clo (q := mI251) rfl
  refine r_iload_n hV rfl rfl (pc' := 1) rfl ?_
  refine r_aload_n hV rfl rfl (pc' := 2) rfl ?_
  refine tt_getI hV (tg := 0) (ci := 12) (kf := 28) rfl rfl (by decide) (hB _ _ rfl) rfl (by decide) (pc' := 5) rfl ?_
  obtain ⟨g1, h⟩ := h
  obtain ⟨g2, h⟩ := h
  refine tt_icmp_ne hV rfl g1 g2 (pt := 70) (by decide) (pf := 8) rfl (fun hc => ?_) (fun hc => ?_)
  · replace h := h.1 hc
    refine tt_iconst hV rfl (pc' := 71) rfl ?_
    refine tt_istore5 hV rfl rfl (pc' := 73) rfl ?_
    exact h
  · replace h := h.2 (Decidable.not_not.mp hc)
    refine r_aload_n hV rfl rfl (pc' := 9) rfl ?_
    obtain ⟨m9, h, hr⟩ := h
    refine tt_cv0U hV rfl rfl rfl (Wd_obj (hB _ _ rfl)) (Nat.le_of_ble_eq_true rfl) (Nat.le_of_ble_eq_true rfl) rfl hr (pc' := 12) rfl ?_
    refine tt_iconst hV rfl (pc' := 13) rfl ?_
    refine tt_istore5 hV rfl rfl (pc' := 15) rfl ?_
    exact h
theorem M_tryLeans_15w {X : Cx} {d : Nat} {x : Int} {y : Int} {z : Int} {u : Int} {l5 : Int} {m : Mm} {Q : Mm → Prop} (hB : Bsh X.2.2.1) (h : (-2147483648 ≤ l5 ∧ l5 < 2147483648) ∧ (-2147483648 ≤ (m 83 28) ∧ (m 83 28) < 2147483648) ∧ (m 83 28 ≤ l5 → M_layEnd X d m (fun m47 => M_sideOf X d (m47 83 39) m47 (fun v55 m55 => (-2147483648 ≤ v55 ∧ v55 < 2147483648) ∧ (-2147483648 ≤ y ∧ y < 2147483648) ∧ (v55 ≠ y → Q m55) ∧ (v55 = y → M_tryRow X d z u m55 (fun m66 => Q m66))))) ∧ (l5 < m 83 28 → (0 ≤ l5 ∧ l5 < 6) ∧ (0 ≤ l5 ∧ l5 < 205) ∧ M_tryLeans_15 X (d + 1) x y z u (l5 + 1) (up m 101 l5 (m 105 l5)) Q)) : M_tryLeans_15 X (d + 1) x y z u l5 m Q := by
  unfold M_tryLeans_15
  have hV : Clo (gP X.1 X.2.1) (d + 1) 251 6 false (Ru0 (gP X.1 X.2.1) (d + 1) 251 X.2.2.1 X.2.2.2 Q) := Ru0_clo (q := mI251) rfl
  refine r_iload hV rfl rfl (pc' := 17) rfl ?_
  refine r_aload_n hV rfl rfl (pc' := 18) rfl ?_
  refine tt_getI hV (tg := 0) (ci := 12) (kf := 28) rfl rfl (by decide) (hB _ _ rfl) rfl (by decide) (pc' := 21) rfl ?_
  obtain ⟨g3, h⟩ := h
  obtain ⟨g4, h⟩ := h
  refine tt_icmp_ge hV rfl g3 g4 (pt := 46) (by decide) (pf := 24) rfl (fun hc => ?_) (fun hc => ?_)
  · replace h := h.1 hc
    refine r_aload_n hV rfl rfl (pc' := 47) rfl ?_
    obtain ⟨m47, h, hr⟩ := h
    refine tt_cv0U hV rfl rfl rfl (Wd_obj (hB _ _ rfl)) (Nat.le_of_ble_eq_true rfl) (Nat.le_of_ble_eq_true rfl) rfl hr (pc' := 50) rfl ?_
    refine r_aload_n hV rfl rfl (pc' := 51) rfl ?_
    refine r_aload_n hV rfl rfl (pc' := 52) rfl ?_
    refine tt_getI hV (tg := 0) (ci := 12) (kf := 39) rfl rfl (by decide) (hB _ _ rfl) rfl (by decide) (pc' := 55) rfl ?_
    obtain ⟨v55, m55, h, hr⟩ := h
    refine tt_cv1I hV rfl rfl rfl (Wd_obj (hB _ _ rfl)) (Nat.le_of_ble_eq_true rfl) (Nat.le_of_ble_eq_true rfl) rfl hr (pc' := 58) rfl ?_
    refine r_iload_n hV rfl rfl (pc' := 59) rfl ?_
    obtain ⟨g5, h⟩ := h
    obtain ⟨g6, h⟩ := h
    refine tt_icmp_ne hV rfl g5 g6 (pt := 69) (by decide) (pf := 62) rfl (fun hc => ?_) (fun hc => ?_)
    · replace h := h.1 hc
      exact ru0_ret (q := mI251) rfl rfl rfl h
    · replace h := h.2 (Decidable.not_not.mp hc)
      refine r_aload_n hV rfl rfl (pc' := 63) rfl ?_
      refine r_iload_n hV rfl rfl (pc' := 64) rfl ?_
      refine r_iload hV rfl rfl (pc' := 66) rfl ?_
      obtain ⟨m66, h, hr⟩ := h
      refine tt_cv2U hV rfl rfl rfl (Wd_obj (hB _ _ rfl)) (Nat.le_of_ble_eq_true rfl) (Nat.le_of_ble_eq_true rfl) rfl hr (pc' := 69) rfl ?_
      exact ru0_ret (q := mI251) rfl rfl rfl h
  · replace h := h.2 (Int.not_le.mp hc)
    refine r_aload_n hV rfl rfl (pc' := 25) rfl ?_
    refine tt_getR hV (tg := 6) (ci := 12) (kf := 30) rfl rfl (by decide) (hB _ _ rfl) rfl (by decide) (pc' := 28) rfl ?_
    refine tt_iconst hV rfl (pc' := 29) rfl ?_
    refine r_iload hV rfl rfl (pc' := 31) rfl ?_
    refine tt_iadd hV rfl (pc' := 32) rfl ?_
    refine vtI (y := l5) (by clear h; omega) ?_
    refine r_aload_n hV rfl rfl (pc' := 33) rfl ?_
    refine tt_getR hV (tg := 6) (ci := 12) (kf := 43) rfl rfl (by decide) (hB _ _ rfl) rfl (by decide) (pc' := 36) rfl ?_
    refine r_iload hV rfl rfl (pc' := 38) rfl ?_
    obtain ⟨g7, h⟩ := h
    refine q_iald hV rfl (hB _ _ rfl) (Nat.le_of_ble_eq_true rfl) rfl g7 (pc' := 39) rfl ?_
    obtain ⟨g8, h⟩ := h
    refine q_iast hV rfl (hB _ _ rfl) (Nat.le_of_ble_eq_true rfl) rfl g8 (pc' := 40) rfl ?_
    refine tt_iinc5 hV rfl rfl (pc' := 43) rfl ?_
    refine r_goto hV rfl (pc' := 15) (by decide) ?_
    exact h
theorem M_tryLeans_73w {X : Cx} {d : Nat} {x : Int} {y : Int} {z : Int} {u : Int} {l5 : Int} {m : Mm} {Q : Mm → Prop} (hB : Bsh X.2.2.1) (h : (-2147483648 ≤ l5 ∧ l5 < 2147483648) ∧ (3 ≤ l5 → Q m) ∧ (l5 < 3 → (0 ≤ x ∧ x < 6) ∧ (0 ≤ x ∧ x < 205) ∧ (-2147483648 ≤ (m 101 x) ∧ (m 101 x) < 2147483648) ∧ (l5 ≠ m 101 x → M_tryLeans X d (x + 1) y (10 * z + l5) (u + 1) (up m 105 x l5) (fun m120 => M_tryLeans_73 X (d + 1) x y z u (l5 + 1) m120 Q)) ∧ (l5 = m 101 x → M_tryLeans X d (x + 1) y (10 * z + l5) u (up m 105 x l5) (fun m120 => M_tryLeans_73 X (d + 1) x y z u (l5 + 1) m120 Q)))) : M_tryLeans_73 X (d + 1) x y z u l5 m Q := by
  unfold M_tryLeans_73
  have hV : Clo (gP X.1 X.2.1) (d + 1) 251 6 false (Ru0 (gP X.1 X.2.1) (d + 1) 251 X.2.2.1 X.2.2.2 Q) := Ru0_clo (q := mI251) rfl
  refine r_iload hV rfl rfl (pc' := 75) rfl ?_
  refine tt_iconst hV rfl (pc' := 76) rfl ?_
  obtain ⟨g9, h⟩ := h
  refine tt_icmp_ge hV rfl g9 (by decide) (pt := 129) (by decide) (pf := 79) rfl (fun hc => ?_) (fun hc => ?_)
  · replace h := h.1 hc
    exact ru0_ret (q := mI251) rfl rfl rfl h
  · replace h := h.2 (Int.not_le.mp hc)
    refine r_aload_n hV rfl rfl (pc' := 80) rfl ?_
    refine tt_getR hV (tg := 6) (ci := 12) (kf := 43) rfl rfl (by decide) (hB _ _ rfl) rfl (by decide) (pc' := 83) rfl ?_
    refine r_iload_n hV rfl rfl (pc' := 84) rfl ?_
    refine r_iload hV rfl rfl (pc' := 86) rfl ?_
    obtain ⟨g10, h⟩ := h
    refine q_iast hV rfl (hB _ _ rfl) (Nat.le_of_ble_eq_true rfl) rfl g10 (pc' := 87) rfl ?_
    refine r_aload_n hV rfl rfl (pc' := 88) rfl ?_
    refine r_iload_n hV rfl rfl (pc' := 89) rfl ?_
    refine tt_iconst hV rfl (pc' := 90) rfl ?_
    refine tt_iadd hV rfl (pc' := 91) rfl ?_
    refine r_iload_n hV rfl rfl (pc' := 92) rfl ?_
    refine tt_bipush hV rfl (by decide) (pc' := 94) rfl ?_
    refine r_iload_n hV rfl rfl (pc' := 95) rfl ?_
    refine tt_imul hV rfl (pc' := 96) rfl ?_
    refine r_iload hV rfl rfl (pc' := 98) rfl ?_
    refine tt_iadd hV rfl (pc' := 99) rfl ?_
    refine r_iload hV rfl rfl (pc' := 101) rfl ?_
    refine r_iload hV rfl rfl (pc' := 103) rfl ?_
    refine r_aload_n hV rfl rfl (pc' := 104) rfl ?_
    refine tt_getR hV (tg := 6) (ci := 12) (kf := 30) rfl rfl (by decide) (hB _ _ rfl) rfl (by decide) (pc' := 107) rfl ?_
    refine tt_iconst hV rfl (pc' := 108) rfl ?_
    refine r_iload_n hV rfl rfl (pc' := 109) rfl ?_
    refine tt_iadd hV rfl (pc' := 110) rfl ?_
    refine vtI (y := x) (by clear h; omega) ?_
    obtain ⟨g11, h⟩ := h
    refine q_iald hV rfl (hB _ _ rfl) (Nat.le_of_ble_eq_true rfl) rfl g11 (pc' := 111) rfl ?_
    refine vtI (y := m 101 x) (up_ne (Or.inl (by decide))) ?_
    obtain ⟨g12, h⟩ := h
    refine tt_icmp_ne hV rfl g9 g12 (pt := 118) (by decide) (pf := 114) rfl (fun hc => ?_) (fun hc => ?_)
    · replace h := h.1 hc
      refine tt_iconst hV rfl (pc' := 119) rfl ?_
      refine tt_iadd hV rfl (pc' := 120) rfl ?_
      obtain ⟨m120, h, hr⟩ := h
      refine tt_cv4U hV rfl rfl rfl (Wd_obj (hB _ _ rfl)) (Nat.le_of_ble_eq_true rfl) (Nat.le_of_ble_eq_true rfl) rfl hr (pc' := 123) rfl ?_
      refine tt_iinc5 hV rfl rfl (pc' := 126) rfl ?_
      refine r_goto hV rfl (pc' := 73) (by decide) ?_
      exact h
    · replace h := h.2 (Decidable.not_not.mp hc)
      refine tt_iconst hV rfl (pc' := 115) rfl ?_
      refine r_goto hV rfl (pc' := 119) (by decide) ?_
      refine tt_iadd hV rfl (pc' := 120) rfl ?_
      refine vtI (y := u) (by clear h; omega) ?_
      obtain ⟨m120, h, hr⟩ := h
      refine tt_cv4U hV rfl rfl rfl (Wd_obj (hB _ _ rfl)) (Nat.le_of_ble_eq_true rfl) (Nat.le_of_ble_eq_true rfl) rfl hr (pc' := 123) rfl ?_
      refine tt_iinc5 hV rfl rfl (pc' := 126) rfl ?_
      refine r_goto hV rfl (pc' := 73) (by decide) ?_
      exact h
theorem M_isSidew {X : Cx} {d : Nat} {x : Int} {y : Int} {m : Mm} {Q : Int → Mm → Prop} (hB : Bsh X.2.2.1) (h : (-2147483648 ≤ (m 83 28) ∧ (m 83 28) < 2147483648) ∧ (m 83 28 ≤ 0 → Q 0 m) ∧ (0 < m 83 28 → M_in X d x 0 2 m (fun v10 m10 => (-2147483648 ≤ v10 ∧ v10 < 2147483648) ∧ (v10 = 0 → Q 0 m10) ∧ (v10 ≠ 0 → M_in X d y 0 1 m10 (fun v19 m19 => (-2147483648 ≤ v19 ∧ v19 < 2147483648) ∧ (v19 = 0 → Q 0 m19) ∧ (v19 ≠ 0 → Q 1 m19)))))) : M_isSide X (d + 1) x y m Q := by
  unfold M_isSide
  have hV : Clo (gP X.1 X.2.1) (d + 1) 252 3 false (Rq (gP X.1 X.2.1) (d + 1) 252 X.2.2.1 X.2.2.2 Q) := Rq_clo (q := mI252) rfl
  refine r_aload_n hV rfl rfl (pc' := 1) rfl ?_
  refine tt_getI hV (tg := 0) (ci := 12) (kf := 28) rfl rfl (by decide) (hB _ _ rfl) rfl (by decide) (pc' := 4) rfl ?_
  obtain ⟨g1, h⟩ := h
  refine tt_if_le hV rfl g1 (pt := 29) (by decide) (pf := 7) rfl (fun hc => ?_) (fun hc => ?_)
  · replace h := h.1 hc
    refine tt_iconst hV rfl (pc' := 30) rfl ?_
    exact rq_ret (q := mI252) rfl rfl rfl h
  · replace h := h.2 (Int.not_le.mp hc)
    refine r_iload_n hV rfl rfl (pc' := 8) rfl ?_
    refine tt_iconst hV rfl (pc' := 9) rfl ?_
    refine tt_iconst hV rfl (pc' := 10) rfl ?_
    obtain ⟨v10, m10, h, hr⟩ := h
    refine tt_cs3I hV rfl rfl rfl (Nat.le_of_ble_eq_true rfl) (Nat.le_of_ble_eq_true rfl) rfl hr (pc' := 13) rfl ?_
    obtain ⟨g2, h⟩ := h
    refine tt_if_eq hV rfl g2 (pt := 29) (by decide) (pf := 16) rfl (fun hc => ?_) (fun hc => ?_)
    · replace h := h.1 hc
      refine tt_iconst hV rfl (pc' := 30) rfl ?_
      exact rq_ret (q := mI252) rfl rfl rfl h
    · replace h := h.2 hc
      refine r_iload_n hV rfl rfl (pc' := 17) rfl ?_
      refine tt_iconst hV rfl (pc' := 18) rfl ?_
      refine tt_iconst hV rfl (pc' := 19) rfl ?_
      obtain ⟨v19, m19, h, hr⟩ := h
      refine tt_cs3I hV rfl rfl rfl (Nat.le_of_ble_eq_true rfl) (Nat.le_of_ble_eq_true rfl) rfl hr (pc' := 22) rfl ?_
      obtain ⟨g3, h⟩ := h
      refine tt_if_eq hV rfl g3 (pt := 29) (by decide) (pf := 25) rfl (fun hc => ?_) (fun hc => ?_)
      · replace h := h.1 hc
        refine tt_iconst hV rfl (pc' := 30) rfl ?_
        exact rq_ret (q := mI252) rfl rfl rfl h
      · replace h := h.2 hc
        refine tt_iconst hV rfl (pc' := 26) rfl ?_
        refine r_goto hV rfl (pc' := 30) (by decide) ?_
        exact rq_ret (q := mI252) rfl rfl rfl h
theorem M_turnw {X : Cx} {d : Nat} {x : Int} {y : Int} {m : Mm} {Q : Int → Mm → Prop} (hB : Bsh X.2.2.1) (h : M_isSide X d x y m (fun v3 m3 => (-2147483648 ≤ v3 ∧ v3 < 2147483648) ∧ (v3 ≠ 0 → M_tryLeans X d 0 x 0 0 (up m3 83 41 (-1)) (fun m21 => (-2147483648 ≤ (m21 83 41) ∧ (m21 83 41) < 2147483648) ∧ (m21 83 41 = -1 → Q (m21 83 41) m21) ∧ (m21 83 41 ≠ -1 → (-2147483648 ≤ y ∧ y < 2147483648) ∧ (y ≠ 1 → Q (m21 83 42) m21) ∧ (y = 1 → Q (m21 83 41) m21)))) ∧ (v3 = 0 → Q (-1) m3))) : M_turn X (d + 1) x y m Q := by
  unfold M_turn
  have hV : Clo (gP X.1 X.2.1) (d + 1) 253 3 false (Rq (gP X.1 X.2.1) (d + 1) 253 X.2.2.1 X.2.2.2 Q) := Rq_clo (q := mI253) rfl
  refine r_aload_n hV rfl rfl (pc' := 1) rfl ?_
  refine r_iload_n hV rfl rfl (pc' := 2) rfl ?_
  refine r_iload_n hV rfl rfl (pc' := 3) rfl ?_
  obtain ⟨v3, m3, h, hr⟩ := h
  refine tt_cv2I hV rfl rfl rfl (Wd_obj (hB _ _ rfl)) (Nat.le_of_ble_eq_true rfl) (Nat.le_of_ble_eq_true rfl) rfl hr (pc' := 6) rfl ?_
  obtain ⟨g1, h⟩ := h
  refine tt_if_ne hV rfl g1 (pt := 11) (by decide) (pf := 9) rfl (fun hc => ?_) (fun hc => ?_)
  · replace h := h.1 hc
    refine r_aload_n hV rfl rfl (pc' := 12) rfl ?_
    refine tt_iconst hV rfl (pc' := 13) rfl ?_
    refine tt_putI hV (tg := 0) (ci := 12) (kf := 41) rfl rfl (Or.inl rfl) (hB _ _ rfl) rfl (by decide) rfl (pc' := 16) rfl ?_
    refine r_aload_n hV rfl rfl (pc' := 17) rfl ?_
    refine tt_iconst hV rfl (pc' := 18) rfl ?_
    refine r_iload_n hV rfl rfl (pc' := 19) rfl ?_
    refine tt_iconst hV rfl (pc' := 20) rfl ?_
    refine tt_iconst hV rfl (pc' := 21) rfl ?_
    obtain ⟨m21, h, hr⟩ := h
    refine tt_cv4U hV rfl rfl rfl (Wd_obj (hB _ _ rfl)) (Nat.le_of_ble_eq_true rfl) (Nat.le_of_ble_eq_true rfl) rfl hr (pc' := 24) rfl ?_
    refine r_aload_n hV rfl rfl (pc' := 25) rfl ?_
    refine tt_getI hV (tg := 0) (ci := 12) (kf := 41) rfl rfl (by decide) (hB _ _ rfl) rfl (by decide) (pc' := 28) rfl ?_
    refine tt_iconst hV rfl (pc' := 29) rfl ?_
    obtain ⟨g2, h⟩ := h
    refine tt_icmp_eq hV rfl g2 (by decide) (pt := 37) (by decide) (pf := 32) rfl (fun hc => ?_) (fun hc => ?_)
    · replace h := h.1 hc
      refine r_aload_n hV rfl rfl (pc' := 38) rfl ?_
      refine tt_getI hV (tg := 0) (ci := 12) (kf := 41) rfl rfl (by decide) (hB _ _ rfl) rfl (by decide) (pc' := 41) rfl ?_
      refine r_goto hV rfl (pc' := 48) (by decide) ?_
      exact rq_ret (q := mI253) rfl rfl rfl h
    · replace h := h.2 hc
      refine r_iload_n hV rfl rfl (pc' := 33) rfl ?_
      refine tt_iconst hV rfl (pc' := 34) rfl ?_
      obtain ⟨g3, h⟩ := h
      refine tt_icmp_ne hV rfl g3 (by decide) (pt := 44) (by decide) (pf := 37) rfl (fun hc => ?_) (fun hc => ?_)
      · replace h := h.1 hc
        refine r_aload_n hV rfl rfl (pc' := 45) rfl ?_
        refine tt_getI hV (tg := 0) (ci := 12) (kf := 42) rfl rfl (by decide) (hB _ _ rfl) rfl (by decide) (pc' := 48) rfl ?_
        exact rq_ret (q := mI253) rfl rfl rfl h
      · replace h := h.2 (Decidable.not_not.mp hc)
        refine r_aload_n hV rfl rfl (pc' := 38) rfl ?_
        refine tt_getI hV (tg := 0) (ci := 12) (kf := 41) rfl rfl (by decide) (hB _ _ rfl) rfl (by decide) (pc' := 41) rfl ?_
        refine r_goto hV rfl (pc' := 48) (by decide) ?_
        exact rq_ret (q := mI253) rfl rfl rfl h
  · replace h := h.2 (Decidable.not_not.mp hc)
    refine tt_iconst hV rfl (pc' := 10) rfl ?_
    exact rq_ret (q := mI253) rfl rfl rfl h
theorem M_trySeatsw {X : Cx} {d : Nat} {x : Int} {y : Int} {z : Int} {u : Int} {v : Int} {m : Mm} {Q : Mm → Prop} (hB : Bsh X.2.2.1) (h : (-2147483648 ≤ y ∧ y < 2147483648) ∧ (y ≠ 0 → M_trySeats_71 X (d + 1) x y z u v 0 m Q) ∧ (y = 0 → M_putAside X d m (fun m5 => M_trySeats_11 X (d + 1) x y z u v 0 m5 Q))) : M_trySeats X (d + 1) x y z u v m Q := by
  unfold M_trySeats
  have hV : Clo (gP X.1 X.2.1) (d + 1) 254 7 false (Ru0 (gP X.1 X.2.1) (d + 1) 254 X.2.2.1 X.2.2.2 Q) := Ru0_clo (q := mI254) rfl
  refine r_iload_n hV rfl rfl (pc' := 1) rfl ?_
  obtain ⟨g1, h⟩ := h
  refine tt_if_ne hV rfl g1 (pt := 68) (by decide) (pf := 4) rfl (fun hc => ?_) (fun hc => ?_)
  · replace h := h.1 hc
    refine tt_iconst hV rfl (pc' := 69) rfl ?_
    refine tt_istore6 hV rfl rfl (pc' := 71) rfl ?_
    exact h
  · replace h := h.2 (Decidable.not_not.mp hc)
    refine r_aload_n hV rfl rfl (pc' := 5) rfl ?_
    obtain ⟨m5, h, hr⟩ := h
    refine tt_cv0U hV rfl rfl rfl (Wd_obj (hB _ _ rfl)) (Nat.le_of_ble_eq_true rfl) (Nat.le_of_ble_eq_true rfl) rfl hr (pc' := 8) rfl ?_
    refine tt_iconst hV rfl (pc' := 9) rfl ?_
    refine tt_istore6 hV rfl rfl (pc' := 11) rfl ?_
    exact h
theorem M_trySeats_11w {X : Cx} {d : Nat} {x : Int} {y : Int} {z : Int} {u : Int} {v : Int} {l6 : Int} {m : Mm} {Q : Mm → Prop} (hB : Bsh X.2.2.1) (h : (-2147483648 ≤ l6 ∧ l6 < 2147483648) ∧ (-2147483648 ≤ (m 83 28) ∧ (m 83 28) < 2147483648) ∧ (m 83 28 ≤ l6 → M_layEnd X d m (fun m44 => M_sideOf X d (m44 83 39) m44 (fun v52 m52 => (-2147483648 ≤ v52 ∧ v52 < 2147483648) ∧ (-2147483648 ≤ z ∧ z < 2147483648) ∧ (v52 ≠ z → Q m52) ∧ (v52 = z → M_tryRow X d u v m52 (fun m64 => Q m64))))) ∧ (l6 < m 83 28 → (0 ≤ l6 ∧ l6 < 6) ∧ (0 ≤ m 106 l6 + 12 ∧ m 106 l6 + 12 < 205) ∧ M_trySeats_11 X (d + 1) x y z u v (l6 + 1) (up m 101 (m 106 l6 + 12) l6) Q)) : M_trySeats_11 X (d + 1) x y z u v l6 m Q := by
  unfold M_trySeats_11
  have hV : Clo (gP X.1 X.2.1) (d + 1) 254 7 false (Ru0 (gP X.1 X.2.1) (d + 1) 254 X.2.2.1 X.2.2.2 Q) := Ru0_clo (q := mI254) rfl
  refine r_iload hV rfl rfl (pc' := 13) rfl ?_
  refine r_aload_n hV rfl rfl (pc' := 14) rfl ?_
  refine tt_getI hV (tg := 0) (ci := 12) (kf := 28) rfl rfl (by decide) (hB _ _ rfl) rfl (by decide) (pc' := 17) rfl ?_
  obtain ⟨g2, h⟩ := h
  obtain ⟨g3, h⟩ := h
  refine tt_icmp_ge hV rfl g2 g3 (pt := 43) (by decide) (pf := 20) rfl (fun hc => ?_) (fun hc => ?_)
  · replace h := h.1 hc
    refine r_aload_n hV rfl rfl (pc' := 44) rfl ?_
    obtain ⟨m44, h, hr⟩ := h
    refine tt_cv0U hV rfl rfl rfl (Wd_obj (hB _ _ rfl)) (Nat.le_of_ble_eq_true rfl) (Nat.le_of_ble_eq_true rfl) rfl hr (pc' := 47) rfl ?_
    refine r_aload_n hV rfl rfl (pc' := 48) rfl ?_
    refine r_aload_n hV rfl rfl (pc' := 49) rfl ?_
    refine tt_getI hV (tg := 0) (ci := 12) (kf := 39) rfl rfl (by decide) (hB _ _ rfl) rfl (by decide) (pc' := 52) rfl ?_
    obtain ⟨v52, m52, h, hr⟩ := h
    refine tt_cv1I hV rfl rfl rfl (Wd_obj (hB _ _ rfl)) (Nat.le_of_ble_eq_true rfl) (Nat.le_of_ble_eq_true rfl) rfl hr (pc' := 55) rfl ?_
    refine r_iload_n hV rfl rfl (pc' := 56) rfl ?_
    obtain ⟨g4, h⟩ := h
    obtain ⟨g5, h⟩ := h
    refine tt_icmp_ne hV rfl g4 g5 (pt := 67) (by decide) (pf := 59) rfl (fun hc => ?_) (fun hc => ?_)
    · replace h := h.1 hc
      exact ru0_ret (q := mI254) rfl rfl rfl h
    · replace h := h.2 (Decidable.not_not.mp hc)
      refine r_aload_n hV rfl rfl (pc' := 60) rfl ?_
      refine r_iload hV rfl rfl (pc' := 62) rfl ?_
      refine r_iload hV rfl rfl (pc' := 64) rfl ?_
      obtain ⟨m64, h, hr⟩ := h
      refine tt_cv2U hV rfl rfl rfl (Wd_obj (hB _ _ rfl)) (Nat.le_of_ble_eq_true rfl) (Nat.le_of_ble_eq_true rfl) rfl hr (pc' := 67) rfl ?_
      exact ru0_ret (q := mI254) rfl rfl rfl h
  · replace h := h.2 (Int.not_le.mp hc)
    refine r_aload_n hV rfl rfl (pc' := 21) rfl ?_
    refine tt_getR hV (tg := 6) (ci := 12) (kf := 30) rfl rfl (by decide) (hB _ _ rfl) rfl (by decide) (pc' := 24) rfl ?_
    refine tt_bipush hV rfl (by decide) (pc' := 26) rfl ?_
    refine r_aload_n hV rfl rfl (pc' := 27) rfl ?_
    refine tt_getR hV (tg := 6) (ci := 12) (kf := 44) rfl rfl (by decide) (hB _ _ rfl) rfl (by decide) (pc' := 30) rfl ?_
    refine r_iload hV rfl rfl (pc' := 32) rfl ?_
    obtain ⟨g6, h⟩ := h
    refine q_iald hV rfl (hB _ _ rfl) (Nat.le_of_ble_eq_true rfl) rfl g6 (pc' := 33) rfl ?_
    refine tt_iadd hV rfl (pc' := 34) rfl ?_
    refine vtI (y := m 106 l6 + 12) (by clear h; omega) ?_
    refine r_iload hV rfl rfl (pc' := 36) rfl ?_
    obtain ⟨g7, h⟩ := h
    refine q_iast hV rfl (hB _ _ rfl) (Nat.le_of_ble_eq_true rfl) rfl g7 (pc' := 37) rfl ?_
    refine tt_iinc6 hV rfl rfl (pc' := 40) rfl ?_
    refine r_goto hV rfl (pc' := 11) (by decide) ?_
    exact h
theorem M_trySeats_71w {X : Cx} {d : Nat} {x : Int} {y : Int} {z : Int} {u : Int} {v : Int} {l6 : Int} {m : Mm} {Q : Mm → Prop} (hB : Bsh X.2.2.1) (h : (-2147483648 ≤ l6 ∧ l6 < 2147483648) ∧ (-2147483648 ≤ (m 83 28) ∧ (m 83 28) < 2147483648) ∧ (m 83 28 ≤ l6 → Q m) ∧ (l6 < m 83 28 → M_has X d y l6 m (fun v83 m83 => (-2147483648 ≤ v83 ∧ v83 < 2147483648) ∧ (v83 = 0 → M_trySeats_71 X (d + 1) x y z u v (l6 + 1) m83 Q) ∧ (v83 ≠ 0 → (0 ≤ x ∧ x < 6) ∧ (0 ≤ l6 + 12 ∧ l6 + 12 < 205) ∧ (-2147483648 ≤ (m83 101 (l6 + 12)) ∧ (m83 101 (l6 + 12)) < 2147483648) ∧ (-2147483648 ≤ x ∧ x < 2147483648) ∧ (m83 101 (l6 + 12) ≠ x → M_trySeats X d (x + 1) ((iA y ((iX ((iSl 1 l6)) (-1))))) z (10 * u + l6) (v + 1) (up m83 106 x l6) (fun m140 => M_trySeats_71 X (d + 1) x y z u v (l6 + 1) m140 Q)) ∧ (m83 101 (l6 + 12) = x → M_trySeats X d (x + 1) ((iA y ((iX ((iSl 1 l6)) (-1))))) z (10 * u + l6) v (up m83 106 x l6) (fun m140 => M_trySeats_71 X (d + 1) x y z u v (l6 + 1) m140 Q)))))) : M_trySeats_71 X (d + 1) x y z u v l6 m Q := by
  unfold M_trySeats_71
  have hV : Clo (gP X.1 X.2.1) (d + 1) 254 7 false (Ru0 (gP X.1 X.2.1) (d + 1) 254 X.2.2.1 X.2.2.2 Q) := Ru0_clo (q := mI254) rfl
  refine r_iload hV rfl rfl (pc' := 73) rfl ?_
  refine r_aload_n hV rfl rfl (pc' := 74) rfl ?_
  refine tt_getI hV (tg := 0) (ci := 12) (kf := 28) rfl rfl (by decide) (hB _ _ rfl) rfl (by decide) (pc' := 77) rfl ?_
  obtain ⟨g8, h⟩ := h
  obtain ⟨g9, h⟩ := h
  refine tt_icmp_ge hV rfl g8 g9 (pt := 149) (by decide) (pf := 80) rfl (fun hc => ?_) (fun hc => ?_)
  · replace h := h.1 hc
    exact ru0_ret (q := mI254) rfl rfl rfl h
  · replace h := h.2 (Int.not_le.mp hc)
    refine r_iload_n hV rfl rfl (pc' := 81) rfl ?_
    refine r_iload hV rfl rfl (pc' := 83) rfl ?_
    obtain ⟨v83, m83, h, hr⟩ := h
    refine tt_cs2I hV rfl rfl rfl (Nat.le_of_ble_eq_true rfl) (Nat.le_of_ble_eq_true rfl) rfl hr (pc' := 86) rfl ?_
    obtain ⟨g10, h⟩ := h
    refine tt_if_eq hV rfl g10 (pt := 143) (by decide) (pf := 89) rfl (fun hc => ?_) (fun hc => ?_)
    · replace h := h.1 hc
      refine tt_iinc6 hV rfl rfl (pc' := 146) rfl ?_
      refine r_goto hV rfl (pc' := 71) (by decide) ?_
      exact h
    · replace h := h.2 hc
      refine r_aload_n hV rfl rfl (pc' := 90) rfl ?_
      refine tt_getR hV (tg := 6) (ci := 12) (kf := 44) rfl rfl (by decide) (hB _ _ rfl) rfl (by decide) (pc' := 93) rfl ?_
      refine r_iload_n hV rfl rfl (pc' := 94) rfl ?_
      refine r_iload hV rfl rfl (pc' := 96) rfl ?_
      obtain ⟨g11, h⟩ := h
      refine q_iast hV rfl (hB _ _ rfl) (Nat.le_of_ble_eq_true rfl) rfl g11 (pc' := 97) rfl ?_
      refine r_aload_n hV rfl rfl (pc' := 98) rfl ?_
      refine r_iload_n hV rfl rfl (pc' := 99) rfl ?_
      refine tt_iconst hV rfl (pc' := 100) rfl ?_
      refine tt_iadd hV rfl (pc' := 101) rfl ?_
      refine r_iload_n hV rfl rfl (pc' := 102) rfl ?_
      refine tt_iconst hV rfl (pc' := 103) rfl ?_
      refine r_iload hV rfl rfl (pc' := 105) rfl ?_
      refine tt_ishl hV rfl (pc' := 106) rfl ?_
      refine tt_iconst hV rfl (pc' := 107) rfl ?_
      refine tt_ixor hV rfl (pc' := 108) rfl ?_
      refine tt_iand hV rfl (pc' := 109) rfl ?_
      refine r_iload_n hV rfl rfl (pc' := 110) rfl ?_
      refine tt_bipush hV rfl (by decide) (pc' := 112) rfl ?_
      refine r_iload hV rfl rfl (pc' := 114) rfl ?_
      refine tt_imul hV rfl (pc' := 115) rfl ?_
      refine r_iload hV rfl rfl (pc' := 117) rfl ?_
      refine tt_iadd hV rfl (pc' := 118) rfl ?_
      refine r_iload hV rfl rfl (pc' := 120) rfl ?_
      refine r_aload_n hV rfl rfl (pc' := 121) rfl ?_
      refine tt_getR hV (tg := 6) (ci := 12) (kf := 30) rfl rfl (by decide) (hB _ _ rfl) rfl (by decide) (pc' := 124) rfl ?_
      refine tt_bipush hV rfl (by decide) (pc' := 126) rfl ?_
      refine r_iload hV rfl rfl (pc' := 128) rfl ?_
      refine tt_iadd hV rfl (pc' := 129) rfl ?_
      refine vtI (y := l6 + 12) (by clear h; omega) ?_
      obtain ⟨g12, h⟩ := h
      refine q_iald hV rfl (hB _ _ rfl) (Nat.le_of_ble_eq_true rfl) rfl g12 (pc' := 130) rfl ?_
      refine vtI (y := m83 101 (l6 + 12)) (up_ne (Or.inl (by decide))) ?_
      refine r_iload_n hV rfl rfl (pc' := 131) rfl ?_
      obtain ⟨g13, h⟩ := h
      obtain ⟨g14, h⟩ := h
      refine tt_icmp_ne hV rfl g13 g14 (pt := 138) (by decide) (pf := 134) rfl (fun hc => ?_) (fun hc => ?_)
      · replace h := h.1 hc
        refine tt_iconst hV rfl (pc' := 139) rfl ?_
        refine tt_iadd hV rfl (pc' := 140) rfl ?_
        obtain ⟨m140, h, hr⟩ := h
        refine tt_cv5U hV rfl rfl rfl (Wd_obj (hB _ _ rfl)) (Nat.le_of_ble_eq_true rfl) (Nat.le_of_ble_eq_true rfl) rfl hr (pc' := 143) rfl ?_
        refine tt_iinc6 hV rfl rfl (pc' := 146) rfl ?_
        refine r_goto hV rfl (pc' := 71) (by decide) ?_
        exact h
      · replace h := h.2 (Decidable.not_not.mp hc)
        refine tt_iconst hV rfl (pc' := 135) rfl ?_
        refine r_goto hV rfl (pc' := 139) (by decide) ?_
        refine tt_iadd hV rfl (pc' := 140) rfl ?_
        refine vtI (y := v) (by clear h; omega) ?_
        obtain ⟨m140, h, hr⟩ := h
        refine tt_cv5U hV rfl rfl rfl (Wd_obj (hB _ _ rfl)) (Nat.le_of_ble_eq_true rfl) (Nat.le_of_ble_eq_true rfl) rfl hr (pc' := 143) rfl ?_
        refine tt_iinc6 hV rfl rfl (pc' := 146) rfl ?_
        refine r_goto hV rfl (pc' := 71) (by decide) ?_
        exact h
theorem M_seatingw {X : Cx} {d : Nat} {x : Int} {y : Int} {m : Mm} {Q : Int → Mm → Prop} (hB : Bsh X.2.2.1) (h : M_isSide X d x y m (fun v3 m3 => (-2147483648 ≤ v3 ∧ v3 < 2147483648) ∧ (v3 ≠ 0 → M_everybody X d (up m3 83 41 (-1)) (fun v19 m19 => M_trySeats X d 0 v19 x 0 0 m19 (fun m25 => (-2147483648 ≤ (m25 83 41) ∧ (m25 83 41) < 2147483648) ∧ (m25 83 41 = -1 → Q (m25 83 41) m25) ∧ (m25 83 41 ≠ -1 → (-2147483648 ≤ y ∧ y < 2147483648) ∧ (y ≠ 1 → Q (m25 83 42) m25) ∧ (y = 1 → Q (m25 83 41) m25))))) ∧ (v3 = 0 → Q (-1) m3))) : M_seating X (d + 1) x y m Q := by
  unfold M_seating
  have hV : Clo (gP X.1 X.2.1) (d + 1) 255 3 false (Rq (gP X.1 X.2.1) (d + 1) 255 X.2.2.1 X.2.2.2 Q) := Rq_clo (q := mI255) rfl
  refine r_aload_n hV rfl rfl (pc' := 1) rfl ?_
  refine r_iload_n hV rfl rfl (pc' := 2) rfl ?_
  refine r_iload_n hV rfl rfl (pc' := 3) rfl ?_
  obtain ⟨v3, m3, h, hr⟩ := h
  refine tt_cv2I hV rfl rfl rfl (Wd_obj (hB _ _ rfl)) (Nat.le_of_ble_eq_true rfl) (Nat.le_of_ble_eq_true rfl) rfl hr (pc' := 6) rfl ?_
  obtain ⟨g1, h⟩ := h
  refine tt_if_ne hV rfl g1 (pt := 11) (by decide) (pf := 9) rfl (fun hc => ?_) (fun hc => ?_)
  · replace h := h.1 hc
    refine r_aload_n hV rfl rfl (pc' := 12) rfl ?_
    refine tt_iconst hV rfl (pc' := 13) rfl ?_
    refine tt_putI hV (tg := 0) (ci := 12) (kf := 41) rfl rfl (Or.inl rfl) (hB _ _ rfl) rfl (by decide) rfl (pc' := 16) rfl ?_
    refine r_aload_n hV rfl rfl (pc' := 17) rfl ?_
    refine tt_iconst hV rfl (pc' := 18) rfl ?_
    refine r_aload_n hV rfl rfl (pc' := 19) rfl ?_
    obtain ⟨v19, m19, h, hr⟩ := h
    refine tt_cv0I hV rfl rfl rfl (Wd_obj (hB _ _ rfl)) (Nat.le_of_ble_eq_true rfl) (Nat.le_of_ble_eq_true rfl) rfl hr (pc' := 22) rfl ?_
    refine r_iload_n hV rfl rfl (pc' := 23) rfl ?_
    refine tt_iconst hV rfl (pc' := 24) rfl ?_
    refine tt_iconst hV rfl (pc' := 25) rfl ?_
    obtain ⟨m25, h, hr⟩ := h
    refine tt_cv5U hV rfl rfl rfl (Wd_obj (hB _ _ rfl)) (Nat.le_of_ble_eq_true rfl) (Nat.le_of_ble_eq_true rfl) rfl hr (pc' := 28) rfl ?_
    refine r_aload_n hV rfl rfl (pc' := 29) rfl ?_
    refine tt_getI hV (tg := 0) (ci := 12) (kf := 41) rfl rfl (by decide) (hB _ _ rfl) rfl (by decide) (pc' := 32) rfl ?_
    refine tt_iconst hV rfl (pc' := 33) rfl ?_
    obtain ⟨g2, h⟩ := h
    refine tt_icmp_eq hV rfl g2 (by decide) (pt := 41) (by decide) (pf := 36) rfl (fun hc => ?_) (fun hc => ?_)
    · replace h := h.1 hc
      refine r_aload_n hV rfl rfl (pc' := 42) rfl ?_
      refine tt_getI hV (tg := 0) (ci := 12) (kf := 41) rfl rfl (by decide) (hB _ _ rfl) rfl (by decide) (pc' := 45) rfl ?_
      refine r_goto hV rfl (pc' := 52) (by decide) ?_
      exact rq_ret (q := mI255) rfl rfl rfl h
    · replace h := h.2 hc
      refine r_iload_n hV rfl rfl (pc' := 37) rfl ?_
      refine tt_iconst hV rfl (pc' := 38) rfl ?_
      obtain ⟨g3, h⟩ := h
      refine tt_icmp_ne hV rfl g3 (by decide) (pt := 48) (by decide) (pf := 41) rfl (fun hc => ?_) (fun hc => ?_)
      · replace h := h.1 hc
        refine r_aload_n hV rfl rfl (pc' := 49) rfl ?_
        refine tt_getI hV (tg := 0) (ci := 12) (kf := 42) rfl rfl (by decide) (hB _ _ rfl) rfl (by decide) (pc' := 52) rfl ?_
        exact rq_ret (q := mI255) rfl rfl rfl h
      · replace h := h.2 (Decidable.not_not.mp hc)
        refine r_aload_n hV rfl rfl (pc' := 42) rfl ?_
        refine tt_getI hV (tg := 0) (ci := 12) (kf := 41) rfl rfl (by decide) (hB _ _ rfl) rfl (by decide) (pc' := 45) rfl ?_
        refine r_goto hV rfl (pc' := 52) (by decide) ?_
        exact rq_ret (q := mI255) rfl rfl rfl h
  · replace h := h.2 (Decidable.not_not.mp hc)
    refine tt_iconst hV rfl (pc' := 10) rfl ?_
    exact rq_ret (q := mI255) rfl rfl rfl h
theorem M_sideByw {X : Cx} {d : Nat} {x : Int} {m : Mm} {Q : Int → Mm → Prop} (hB : Bsh X.2.2.1) (h : M_putAside X d m (fun m1 => M_sideBy_6 X (d + 1) x 0 m1 Q)) : M_sideBy X (d + 1) x m Q := by
  unfold M_sideBy
  have hV : Clo (gP X.1 X.2.1) (d + 1) 256 3 false (Rq (gP X.1 X.2.1) (d + 1) 256 X.2.2.1 X.2.2.2 Q) := Rq_clo (q := mI256) rfl
  refine r_aload_n hV rfl rfl (pc' := 1) rfl ?_
  obtain ⟨m1, h, hr⟩ := h
  refine tt_cv0U hV rfl rfl rfl (Wd_obj (hB _ _ rfl)) (Nat.le_of_ble_eq_true rfl) (Nat.le_of_ble_eq_true rfl) rfl hr (pc' := 4) rfl ?_
  refine tt_iconst hV rfl (pc' := 5) rfl ?_
  refine tt_istore2 hV rfl rfl (pc' := 6) rfl ?_
  exact h
theorem M_sideBy_6w {X : Cx} {d : Nat} {x : Int} {l2 : Int} {m : Mm} {Q : Int → Mm → Prop} (hB : Bsh X.2.2.1) (h : (-2147483648 ≤ l2 ∧ l2 < 2147483648) ∧ (-2147483648 ≤ (m 83 28) ∧ (m 83 28) < 2147483648) ∧ (m 83 28 ≤ l2 → M_layEnd X d m (fun m42 => M_sideOf X d (m42 83 39) m42 (fun v50 m50 => Q v50 m50))) ∧ (l2 < m 83 28 → M_has X d x l2 m (fun v23 m23 => (-2147483648 ≤ v23 ∧ v23 < 2147483648) ∧ (v23 = 0 → (0 ≤ l2 ∧ l2 < 205) ∧ M_sideBy_6 X (d + 1) x (l2 + 1) (up m23 101 l2 0) Q) ∧ (v23 ≠ 0 → (0 ≤ l2 ∧ l2 < 205) ∧ M_sideBy_6 X (d + 1) x (l2 + 1) (up m23 101 l2 2) Q)))) : M_sideBy_6 X (d + 1) x l2 m Q := by
  unfold M_sideBy_6
  have hV : Clo (gP X.1 X.2.1) (d + 1) 256 3 false (Rq (gP X.1 X.2.1) (d + 1) 256 X.2.2.1 X.2.2.2 Q) := Rq_clo (q := mI256) rfl
  refine r_iload_n hV rfl rfl (pc' := 7) rfl ?_
  refine r_aload_n hV rfl rfl (pc' := 8) rfl ?_
  refine tt_getI hV (tg := 0) (ci := 12) (kf := 28) rfl rfl (by decide) (hB _ _ rfl) rfl (by decide) (pc' := 11) rfl ?_
  obtain ⟨g1, h⟩ := h
  obtain ⟨g2, h⟩ := h
  refine tt_icmp_ge hV rfl g1 g2 (pt := 41) (by decide) (pf := 14) rfl (fun hc => ?_) (fun hc => ?_)
  · replace h := h.1 hc
    refine r_aload_n hV rfl rfl (pc' := 42) rfl ?_
    obtain ⟨m42, h, hr⟩ := h
    refine tt_cv0U hV rfl rfl rfl (Wd_obj (hB _ _ rfl)) (Nat.le_of_ble_eq_true rfl) (Nat.le_of_ble_eq_true rfl) rfl hr (pc' := 45) rfl ?_
    refine r_aload_n hV rfl rfl (pc' := 46) rfl ?_
    refine r_aload_n hV rfl rfl (pc' := 47) rfl ?_
    refine tt_getI hV (tg := 0) (ci := 12) (kf := 39) rfl rfl (by decide) (hB _ _ rfl) rfl (by decide) (pc' := 50) rfl ?_
    obtain ⟨v50, m50, h, hr⟩ := h
    refine tt_cv1I hV rfl rfl rfl (Wd_obj (hB _ _ rfl)) (Nat.le_of_ble_eq_true rfl) (Nat.le_of_ble_eq_true rfl) rfl hr (pc' := 53) rfl ?_
    exact rq_ret (q := mI256) rfl rfl rfl h
  · replace h := h.2 (Int.not_le.mp hc)
    refine r_aload_n hV rfl rfl (pc' := 15) rfl ?_
    refine tt_getR hV (tg := 6) (ci := 12) (kf := 30) rfl rfl (by decide) (hB _ _ rfl) rfl (by decide) (pc' := 18) rfl ?_
    refine tt_iconst hV rfl (pc' := 19) rfl ?_
    refine r_iload_n hV rfl rfl (pc' := 20) rfl ?_
    refine tt_iadd hV rfl (pc' := 21) rfl ?_
    refine vtI (y := l2) (by clear h; omega) ?_
    refine r_iload_n hV rfl rfl (pc' := 22) rfl ?_
    refine r_iload_n hV rfl rfl (pc' := 23) rfl ?_
    obtain ⟨v23, m23, h, hr⟩ := h
    refine tt_cs2I hV rfl rfl rfl (Nat.le_of_ble_eq_true rfl) (Nat.le_of_ble_eq_true rfl) rfl hr (pc' := 26) rfl ?_
    obtain ⟨g3, h⟩ := h
    refine tt_if_eq hV rfl g3 (pt := 33) (by decide) (pf := 29) rfl (fun hc => ?_) (fun hc => ?_)
    · replace h := h.1 hc
      refine tt_iconst hV rfl (pc' := 34) rfl ?_
      obtain ⟨g4, h⟩ := h
      refine q_iast hV rfl (hB _ _ rfl) (Nat.le_of_ble_eq_true rfl) rfl g4 (pc' := 35) rfl ?_
      refine tt_iinc2 hV rfl rfl (pc' := 38) rfl ?_
      refine r_goto hV rfl (pc' := 6) (by decide) ?_
      exact h
    · replace h := h.2 hc
      refine tt_iconst hV rfl (pc' := 30) rfl ?_
      refine r_goto hV rfl (pc' := 34) (by decide) ?_
      obtain ⟨g5, h⟩ := h
      refine q_iast hV rfl (hB _ _ rfl) (Nat.le_of_ble_eq_true rfl) rfl g5 (pc' := 35) rfl ?_
      refine tt_iinc2 hV rfl rfl (pc' := 38) rfl ?_
      refine r_goto hV rfl (pc' := 6) (by decide) ?_
      exact h
theorem M_powerw {X : Cx} {d : Nat} {x : Int} {m : Mm} {Q : Int → Mm → Prop} (hB : Bsh X.2.2.1) (h : M_isMember X d x m (fun v2 m2 => (-2147483648 ≤ v2 ∧ v2 < 2147483648) ∧ (v2 ≠ 0 → M_power_14 X (d + 1) x 0 0 m2 Q) ∧ (v2 = 0 → Q (-1) m2))) : M_power X (d + 1) x m Q := by
  unfold M_power
  have hV : Clo (gP X.1 X.2.1) (d + 1) 257 4 false (Rq (gP X.1 X.2.1) (d + 1) 257 X.2.2.1 X.2.2.2 Q) := Rq_clo (q := mI257) rfl
  refine r_aload_n hV rfl rfl (pc' := 1) rfl ?_
  refine r_iload_n hV rfl rfl (pc' := 2) rfl ?_
  obtain ⟨v2, m2, h, hr⟩ := h
  refine tt_cv1I hV rfl rfl rfl (Wd_obj (hB _ _ rfl)) (Nat.le_of_ble_eq_true rfl) (Nat.le_of_ble_eq_true rfl) rfl hr (pc' := 5) rfl ?_
  obtain ⟨g1, h⟩ := h
  refine tt_if_ne hV rfl g1 (pt := 10) (by decide) (pf := 8) rfl (fun hc => ?_) (fun hc => ?_)
  · replace h := h.1 hc
    refine tt_iconst hV rfl (pc' := 11) rfl ?_
    refine tt_istore2 hV rfl rfl (pc' := 12) rfl ?_
    refine tt_iconst hV rfl (pc' := 13) rfl ?_
    refine tt_istore3 hV rfl rfl (pc' := 14) rfl ?_
    exact h
  · replace h := h.2 (Decidable.not_not.mp hc)
    refine tt_iconst hV rfl (pc' := 9) rfl ?_
    exact rq_ret (q := mI257) rfl rfl rfl h
theorem M_power_14w {X : Cx} {d : Nat} {x : Int} {l2 : Int} {l3 : Int} {m : Mm} {Q : Int → Mm → Prop} (hB : Bsh X.2.2.1) (h : M_everybody X d m (fun v16 m16 => (-2147483648 ≤ l3 ∧ l3 < 2147483648) ∧ (-2147483648 ≤ v16 ∧ v16 < 2147483648) ∧ (v16 < l3 → Q l2 m16) ∧ (l3 ≤ v16 → M_has X d l3 x m16 (fun v25 m25 => (-2147483648 ≤ v25 ∧ v25 < 2147483648) ∧ (v25 ≠ 0 → M_power_14 X (d + 1) x l2 (l3 + 1) m25 Q) ∧ (v25 = 0 → M_sideBy X d l3 m25 (fun v33 m33 => M_sideBy X d ((iO l3 ((iSl 1 x)))) m33 (fun v42 m42 => (-2147483648 ≤ v33 ∧ v33 < 2147483648) ∧ (-2147483648 ≤ v42 ∧ v42 < 2147483648) ∧ (v33 = v42 → M_power_14 X (d + 1) x l2 (l3 + 1) m42 Q) ∧ (v33 ≠ v42 → M_power_14 X (d + 1) x (l2 + 1) (l3 + 1) m42 Q)))))))) : M_power_14 X (d + 1) x l2 l3 m Q := by
  unfold M_power_14
  have hV : Clo (gP X.1 X.2.1) (d + 1) 257 4 false (Rq (gP X.1 X.2.1) (d + 1) 257 X.2.2.1 X.2.2.2 Q) := Rq_clo (q := mI257) rfl
  refine r_iload_n hV rfl rfl (pc' := 15) rfl ?_
  refine r_aload_n hV rfl rfl (pc' := 16) rfl ?_
  obtain ⟨v16, m16, h, hr⟩ := h
  refine tt_cv0I hV rfl rfl rfl (Wd_obj (hB _ _ rfl)) (Nat.le_of_ble_eq_true rfl) (Nat.le_of_ble_eq_true rfl) rfl hr (pc' := 19) rfl ?_
  obtain ⟨g2, h⟩ := h
  obtain ⟨g3, h⟩ := h
  refine tt_icmp_gt hV rfl g2 g3 (pt := 61) (by decide) (pf := 22) rfl (fun hc => ?_) (fun hc => ?_)
  · replace h := h.1 hc
    refine r_iload_n hV rfl rfl (pc' := 62) rfl ?_
    exact rq_ret (q := mI257) rfl rfl rfl h
  · replace h := h.2 (Int.not_lt.mp hc)
    refine r_iload_n hV rfl rfl (pc' := 23) rfl ?_
    refine r_iload_n hV rfl rfl (pc' := 24) rfl ?_
    refine r_iload_n hV rfl rfl (pc' := 25) rfl ?_
    obtain ⟨v25, m25, h, hr⟩ := h
    refine tt_cs2I hV rfl rfl rfl (Nat.le_of_ble_eq_true rfl) (Nat.le_of_ble_eq_true rfl) rfl hr (pc' := 28) rfl ?_
    obtain ⟨g4, h⟩ := h
    refine tt_if_ne hV rfl g4 (pt := 52) (by decide) (pf := 31) rfl (fun hc => ?_) (fun hc => ?_)
    · replace h := h.1 hc
      refine tt_iconst hV rfl (pc' := 53) rfl ?_
      refine tt_iadd hV rfl (pc' := 54) rfl ?_
      refine vtI (y := l2) (by clear h; omega) ?_
      refine tt_istore2 hV rfl rfl (pc' := 55) rfl ?_
      refine tt_iinc3 hV rfl rfl (pc' := 58) rfl ?_
      refine r_goto hV rfl (pc' := 14) (by decide) ?_
      exact h
    · replace h := h.2 (Decidable.not_not.mp hc)
      refine r_aload_n hV rfl rfl (pc' := 32) rfl ?_
      refine r_iload_n hV rfl rfl (pc' := 33) rfl ?_
      obtain ⟨v33, m33, h, hr⟩ := h
      refine tt_cv1I hV rfl rfl rfl (Wd_obj (hB _ _ rfl)) (Nat.le_of_ble_eq_true rfl) (Nat.le_of_ble_eq_true rfl) rfl hr (pc' := 36) rfl ?_
      refine r_aload_n hV rfl rfl (pc' := 37) rfl ?_
      refine r_iload_n hV rfl rfl (pc' := 38) rfl ?_
      refine tt_iconst hV rfl (pc' := 39) rfl ?_
      refine r_iload_n hV rfl rfl (pc' := 40) rfl ?_
      refine tt_ishl hV rfl (pc' := 41) rfl ?_
      refine tt_ior hV rfl (pc' := 42) rfl ?_
      obtain ⟨v42, m42, h, hr⟩ := h
      refine tt_cv1I hV rfl rfl rfl (Wd_obj (hB _ _ rfl)) (Nat.le_of_ble_eq_true rfl) (Nat.le_of_ble_eq_true rfl) rfl hr (pc' := 45) rfl ?_
      obtain ⟨g5, h⟩ := h
      obtain ⟨g6, h⟩ := h
      refine tt_icmp_eq hV rfl g5 g6 (pt := 52) (by decide) (pf := 48) rfl (fun hc => ?_) (fun hc => ?_)
      · replace h := h.1 hc
        refine tt_iconst hV rfl (pc' := 53) rfl ?_
        refine tt_iadd hV rfl (pc' := 54) rfl ?_
        refine vtI (y := l2) (by clear h; omega) ?_
        refine tt_istore2 hV rfl rfl (pc' := 55) rfl ?_
        refine tt_iinc3 hV rfl rfl (pc' := 58) rfl ?_
        refine r_goto hV rfl (pc' := 14) (by decide) ?_
        exact h
      · replace h := h.2 hc
        refine tt_iconst hV rfl (pc' := 49) rfl ?_
        refine r_goto hV rfl (pc' := 53) (by decide) ?_
        refine tt_iadd hV rfl (pc' := 54) rfl ?_
        refine tt_istore2 hV rfl rfl (pc' := 55) rfl ?_
        refine tt_iinc3 hV rfl rfl (pc' := 58) rfl ?_
        refine r_goto hV rfl (pc' := 14) (by decide) ?_
        exact h
theorem M_gameOfw {X : Cx} {d : Nat} {x : Int} {y : Int} {z : Int} {u : Int} {v : Int} {m : Mm} {Q : Int → Mm → Prop} (hB : Bsh X.2.2.1) (h : (0 ≤ v ∧ v < 205) ∧ M_putAside X d m (fun m12 => (0 ≤ x ∧ x < 205) ∧ (0 ≤ y ∧ y < 205) ∧ M_layEnd X d (up (up m12 101 x z) 101 y u) (fun m35 => M_sideOf X d (m35 83 39) m35 (fun v43 m43 => (-2147483648 ≤ v43 ∧ v43 < 2147483648) ∧ (-2147483648 ≤ (m 101 v) ∧ (m 101 v) < 2147483648) ∧ (v43 ≠ m 101 v → (-2147483648 ≤ v ∧ v < 2147483648) ∧ (-2147483648 ≤ x ∧ x < 2147483648) ∧ (v ≠ x → (-2147483648 ≤ u ∧ u < 2147483648) ∧ (u ≠ 1 → M_has X d (m43 83 40) v m43 (fun v91 m91 => (-2147483648 ≤ v91 ∧ v91 < 2147483648) ∧ (v91 = 0 → Q (-1) m91) ∧ (v91 ≠ 0 → Q (-3) m91))) ∧ (u = 1 → M_has X d (m43 83 40) v m43 (fun v91 m91 => (-2147483648 ≤ v91 ∧ v91 < 2147483648) ∧ (v91 = 0 → Q 0 m91) ∧ (v91 ≠ 0 → Q (-2) m91)))) ∧ (v = x → (-2147483648 ≤ z ∧ z < 2147483648) ∧ (z ≠ 1 → M_has X d (m43 83 40) v m43 (fun v91 m91 => (-2147483648 ≤ v91 ∧ v91 < 2147483648) ∧ (v91 = 0 → Q (-1) m91) ∧ (v91 ≠ 0 → Q (-3) m91))) ∧ (z = 1 → M_has X d (m43 83 40) v m43 (fun v91 m91 => (-2147483648 ≤ v91 ∧ v91 < 2147483648) ∧ (v91 = 0 → Q 0 m91) ∧ (v91 ≠ 0 → Q (-2) m91))))) ∧ (v43 = m 101 v → (-2147483648 ≤ v ∧ v < 2147483648) ∧ (-2147483648 ≤ x ∧ x < 2147483648) ∧ (v ≠ x → (-2147483648 ≤ u ∧ u < 2147483648) ∧ (u ≠ 1 → M_has X d (m43 83 40) v m43 (fun v91 m91 => (-2147483648 ≤ v91 ∧ v91 < 2147483648) ∧ (v91 = 0 → Q 5 m91) ∧ (v91 ≠ 0 → Q 3 m91))) ∧ (u = 1 → M_has X d (m43 83 40) v m43 (fun v91 m91 => (-2147483648 ≤ v91 ∧ v91 < 2147483648) ∧ (v91 = 0 → Q 6 m91) ∧ (v91 ≠ 0 → Q 4 m91)))) ∧ (v = x → (-2147483648 ≤ z ∧ z < 2147483648) ∧ (z ≠ 1 → M_has X d (m43 83 40) v m43 (fun v91 m91 => (-2147483648 ≤ v91 ∧ v91 < 2147483648) ∧ (v91 = 0 → Q 5 m91) ∧ (v91 ≠ 0 → Q 3 m91))) ∧ (z = 1 → M_has X d (m43 83 40) v m43 (fun v91 m91 => (-2147483648 ≤ v91 ∧ v91 < 2147483648) ∧ (v91 = 0 → Q 6 m91) ∧ (v91 ≠ 0 → Q 4 m91))))))))) : M_gameOf X (d + 1) x y z u v m Q := by
  unfold M_gameOf
  have hV : Clo (gP X.1 X.2.1) (d + 1) 258 8 false (Rq (gP X.1 X.2.1) (d + 1) 258 X.2.2.1 X.2.2.2 Q) := Rq_clo (q := mI258) rfl
  refine r_aload_n hV rfl rfl (pc' := 1) rfl ?_
  refine tt_getR hV (tg := 6) (ci := 12) (kf := 30) rfl rfl (by decide) (hB _ _ rfl) rfl (by decide) (pc' := 4) rfl ?_
  refine tt_iconst hV rfl (pc' := 5) rfl ?_
  refine r_iload hV rfl rfl (pc' := 7) rfl ?_
  refine tt_iadd hV rfl (pc' := 8) rfl ?_
  refine vtI (y := v) (by clear h; omega) ?_
  obtain ⟨g1, h⟩ := h
  refine q_iald hV rfl (hB _ _ rfl) (Nat.le_of_ble_eq_true rfl) rfl g1 (pc' := 9) rfl ?_
  refine tt_istore6 hV rfl rfl (pc' := 11) rfl ?_
  refine r_aload_n hV rfl rfl (pc' := 12) rfl ?_
  obtain ⟨m12, h, hr⟩ := h
  refine tt_cv0U hV rfl rfl rfl (Wd_obj (hB _ _ rfl)) (Nat.le_of_ble_eq_true rfl) (Nat.le_of_ble_eq_true rfl) rfl hr (pc' := 15) rfl ?_
  refine r_aload_n hV rfl rfl (pc' := 16) rfl ?_
  refine tt_getR hV (tg := 6) (ci := 12) (kf := 30) rfl rfl (by decide) (hB _ _ rfl) rfl (by decide) (pc' := 19) rfl ?_
  refine tt_iconst hV rfl (pc' := 20) rfl ?_
  refine r_iload_n hV rfl rfl (pc' := 21) rfl ?_
  refine tt_iadd hV rfl (pc' := 22) rfl ?_
  refine vtI (y := x) (by clear h; omega) ?_
  refine r_iload_n hV rfl rfl (pc' := 23) rfl ?_
  obtain ⟨g2, h⟩ := h
  refine q_iast hV rfl (hB _ _ rfl) (Nat.le_of_ble_eq_true rfl) rfl g2 (pc' := 24) rfl ?_
  refine r_aload_n hV rfl rfl (pc' := 25) rfl ?_
  refine tt_getR hV (tg := 6) (ci := 12) (kf := 30) rfl rfl (by decide) (hB _ _ rfl) rfl (by decide) (pc' := 28) rfl ?_
  refine tt_iconst hV rfl (pc' := 29) rfl ?_
  refine r_iload_n hV rfl rfl (pc' := 30) rfl ?_
  refine tt_iadd hV rfl (pc' := 31) rfl ?_
  refine vtI (y := y) (by clear h; omega) ?_
  refine r_iload hV rfl rfl (pc' := 33) rfl ?_
  obtain ⟨g3, h⟩ := h
  refine q_iast hV rfl (hB _ _ rfl) (Nat.le_of_ble_eq_true rfl) rfl g3 (pc' := 34) rfl ?_
  refine r_aload_n hV rfl rfl (pc' := 35) rfl ?_
  obtain ⟨m35, h, hr⟩ := h
  refine tt_cv0U hV rfl rfl rfl (Wd_obj (hB _ _ rfl)) (Nat.le_of_ble_eq_true rfl) (Nat.le_of_ble_eq_true rfl) rfl hr (pc' := 38) rfl ?_
  refine r_aload_n hV rfl rfl (pc' := 39) rfl ?_
  refine r_aload_n hV rfl rfl (pc' := 40) rfl ?_
  refine tt_getI hV (tg := 0) (ci := 12) (kf := 39) rfl rfl (by decide) (hB _ _ rfl) rfl (by decide) (pc' := 43) rfl ?_
  obtain ⟨v43, m43, h, hr⟩ := h
  refine tt_cv1I hV rfl rfl rfl (Wd_obj (hB _ _ rfl)) (Nat.le_of_ble_eq_true rfl) (Nat.le_of_ble_eq_true rfl) rfl hr (pc' := 46) rfl ?_
  refine r_iload hV rfl rfl (pc' := 48) rfl ?_
  obtain ⟨g4, h⟩ := h
  obtain ⟨g5, h⟩ := h
  refine tt_icmp_ne hV rfl g4 g5 (pt := 56) (by decide) (pf := 51) rfl (fun hc => ?_) (fun hc => ?_)
  · replace h := h.1 hc
    refine tt_iconst hV rfl (pc' := 57) rfl ?_
    refine tt_istore7 hV rfl rfl (pc' := 59) rfl ?_
    refine r_iload hV rfl rfl (pc' := 61) rfl ?_
    refine r_iload hV rfl rfl (pc' := 63) rfl ?_
    refine r_iload_n hV rfl rfl (pc' := 64) rfl ?_
    obtain ⟨g6, h⟩ := h
    obtain ⟨g7, h⟩ := h
    refine tt_icmp_ne hV rfl g6 g7 (pt := 71) (by decide) (pf := 67) rfl (fun hc => ?_) (fun hc => ?_)
    · replace h := h.1 hc
      refine r_iload hV rfl rfl (pc' := 73) rfl ?_
      refine tt_iconst hV rfl (pc' := 74) rfl ?_
      obtain ⟨g8, h⟩ := h
      refine tt_icmp_ne hV rfl g8 (by decide) (pt := 81) (by decide) (pf := 77) rfl (fun hc => ?_) (fun hc => ?_)
      · replace h := h.1 hc
        refine tt_iconst hV rfl (pc' := 82) rfl ?_
        refine tt_isub hV rfl (pc' := 83) rfl ?_
        refine vtI (y := -1) (by clear h; omega) ?_
        refine tt_istore7 hV rfl rfl (pc' := 85) rfl ?_
        refine r_aload_n hV rfl rfl (pc' := 86) rfl ?_
        refine tt_getI hV (tg := 0) (ci := 12) (kf := 40) rfl rfl (by decide) (hB _ _ rfl) rfl (by decide) (pc' := 89) rfl ?_
        refine r_iload hV rfl rfl (pc' := 91) rfl ?_
        obtain ⟨v91, m91, h, hr⟩ := h
        refine tt_cs2I hV rfl rfl rfl (Nat.le_of_ble_eq_true rfl) (Nat.le_of_ble_eq_true rfl) rfl hr (pc' := 94) rfl ?_
        obtain ⟨g9, h⟩ := h
        refine tt_if_eq hV rfl g9 (pt := 104) (by decide) (pf := 97) rfl (fun hc => ?_) (fun hc => ?_)
        · replace h := h.1 hc
          refine r_iload hV rfl rfl (pc' := 106) rfl ?_
          exact rq_ret (q := mI258) rfl rfl rfl h
        · replace h := h.2 hc
          refine r_iload hV rfl rfl (pc' := 99) rfl ?_
          refine tt_iconst hV rfl (pc' := 100) rfl ?_
          refine tt_isub hV rfl (pc' := 101) rfl ?_
          refine vtI (y := -3) (by clear h; omega) ?_
          refine r_goto hV rfl (pc' := 106) (by decide) ?_
          exact rq_ret (q := mI258) rfl rfl rfl h
      · replace h := h.2 (Decidable.not_not.mp hc)
        refine tt_iconst hV rfl (pc' := 78) rfl ?_
        refine r_goto hV rfl (pc' := 82) (by decide) ?_
        refine tt_isub hV rfl (pc' := 83) rfl ?_
        refine vtI (y := 0) (by clear h; omega) ?_
        refine tt_istore7 hV rfl rfl (pc' := 85) rfl ?_
        refine r_aload_n hV rfl rfl (pc' := 86) rfl ?_
        refine tt_getI hV (tg := 0) (ci := 12) (kf := 40) rfl rfl (by decide) (hB _ _ rfl) rfl (by decide) (pc' := 89) rfl ?_
        refine r_iload hV rfl rfl (pc' := 91) rfl ?_
        obtain ⟨v91, m91, h, hr⟩ := h
        refine tt_cs2I hV rfl rfl rfl (Nat.le_of_ble_eq_true rfl) (Nat.le_of_ble_eq_true rfl) rfl hr (pc' := 94) rfl ?_
        obtain ⟨g10, h⟩ := h
        refine tt_if_eq hV rfl g10 (pt := 104) (by decide) (pf := 97) rfl (fun hc => ?_) (fun hc => ?_)
        · replace h := h.1 hc
          refine r_iload hV rfl rfl (pc' := 106) rfl ?_
          exact rq_ret (q := mI258) rfl rfl rfl h
        · replace h := h.2 hc
          refine r_iload hV rfl rfl (pc' := 99) rfl ?_
          refine tt_iconst hV rfl (pc' := 100) rfl ?_
          refine tt_isub hV rfl (pc' := 101) rfl ?_
          refine vtI (y := -2) (by clear h; omega) ?_
          refine r_goto hV rfl (pc' := 106) (by decide) ?_
          exact rq_ret (q := mI258) rfl rfl rfl h
    · replace h := h.2 (Decidable.not_not.mp hc)
      refine r_iload_n hV rfl rfl (pc' := 68) rfl ?_
      refine r_goto hV rfl (pc' := 73) (by decide) ?_
      refine tt_iconst hV rfl (pc' := 74) rfl ?_
      obtain ⟨g11, h⟩ := h
      refine tt_icmp_ne hV rfl g11 (by decide) (pt := 81) (by decide) (pf := 77) rfl (fun hc => ?_) (fun hc => ?_)
      · replace h := h.1 hc
        refine tt_iconst hV rfl (pc' := 82) rfl ?_
        refine tt_isub hV rfl (pc' := 83) rfl ?_
        refine vtI (y := -1) (by clear h; omega) ?_
        refine tt_istore7 hV rfl rfl (pc' := 85) rfl ?_
        refine r_aload_n hV rfl rfl (pc' := 86) rfl ?_
        refine tt_getI hV (tg := 0) (ci := 12) (kf := 40) rfl rfl (by decide) (hB _ _ rfl) rfl (by decide) (pc' := 89) rfl ?_
        refine r_iload hV rfl rfl (pc' := 91) rfl ?_
        obtain ⟨v91, m91, h, hr⟩ := h
        refine tt_cs2I hV rfl rfl rfl (Nat.le_of_ble_eq_true rfl) (Nat.le_of_ble_eq_true rfl) rfl hr (pc' := 94) rfl ?_
        obtain ⟨g12, h⟩ := h
        refine tt_if_eq hV rfl g12 (pt := 104) (by decide) (pf := 97) rfl (fun hc => ?_) (fun hc => ?_)
        · replace h := h.1 hc
          refine r_iload hV rfl rfl (pc' := 106) rfl ?_
          exact rq_ret (q := mI258) rfl rfl rfl h
        · replace h := h.2 hc
          refine r_iload hV rfl rfl (pc' := 99) rfl ?_
          refine tt_iconst hV rfl (pc' := 100) rfl ?_
          refine tt_isub hV rfl (pc' := 101) rfl ?_
          refine vtI (y := -3) (by clear h; omega) ?_
          refine r_goto hV rfl (pc' := 106) (by decide) ?_
          exact rq_ret (q := mI258) rfl rfl rfl h
      · replace h := h.2 (Decidable.not_not.mp hc)
        refine tt_iconst hV rfl (pc' := 78) rfl ?_
        refine r_goto hV rfl (pc' := 82) (by decide) ?_
        refine tt_isub hV rfl (pc' := 83) rfl ?_
        refine vtI (y := 0) (by clear h; omega) ?_
        refine tt_istore7 hV rfl rfl (pc' := 85) rfl ?_
        refine r_aload_n hV rfl rfl (pc' := 86) rfl ?_
        refine tt_getI hV (tg := 0) (ci := 12) (kf := 40) rfl rfl (by decide) (hB _ _ rfl) rfl (by decide) (pc' := 89) rfl ?_
        refine r_iload hV rfl rfl (pc' := 91) rfl ?_
        obtain ⟨v91, m91, h, hr⟩ := h
        refine tt_cs2I hV rfl rfl rfl (Nat.le_of_ble_eq_true rfl) (Nat.le_of_ble_eq_true rfl) rfl hr (pc' := 94) rfl ?_
        obtain ⟨g13, h⟩ := h
        refine tt_if_eq hV rfl g13 (pt := 104) (by decide) (pf := 97) rfl (fun hc => ?_) (fun hc => ?_)
        · replace h := h.1 hc
          refine r_iload hV rfl rfl (pc' := 106) rfl ?_
          exact rq_ret (q := mI258) rfl rfl rfl h
        · replace h := h.2 hc
          refine r_iload hV rfl rfl (pc' := 99) rfl ?_
          refine tt_iconst hV rfl (pc' := 100) rfl ?_
          refine tt_isub hV rfl (pc' := 101) rfl ?_
          refine vtI (y := -2) (by clear h; omega) ?_
          refine r_goto hV rfl (pc' := 106) (by decide) ?_
          exact rq_ret (q := mI258) rfl rfl rfl h
  · replace h := h.2 (Decidable.not_not.mp hc)
    refine tt_bipush hV rfl (by decide) (pc' := 53) rfl ?_
    refine r_goto hV rfl (pc' := 57) (by decide) ?_
    refine tt_istore7 hV rfl rfl (pc' := 59) rfl ?_
    refine r_iload hV rfl rfl (pc' := 61) rfl ?_
    refine r_iload hV rfl rfl (pc' := 63) rfl ?_
    refine r_iload_n hV rfl rfl (pc' := 64) rfl ?_
    obtain ⟨g14, h⟩ := h
    obtain ⟨g15, h⟩ := h
    refine tt_icmp_ne hV rfl g14 g15 (pt := 71) (by decide) (pf := 67) rfl (fun hc => ?_) (fun hc => ?_)
    · replace h := h.1 hc
      refine r_iload hV rfl rfl (pc' := 73) rfl ?_
      refine tt_iconst hV rfl (pc' := 74) rfl ?_
      obtain ⟨g16, h⟩ := h
      refine tt_icmp_ne hV rfl g16 (by decide) (pt := 81) (by decide) (pf := 77) rfl (fun hc => ?_) (fun hc => ?_)
      · replace h := h.1 hc
        refine tt_iconst hV rfl (pc' := 82) rfl ?_
        refine tt_isub hV rfl (pc' := 83) rfl ?_
        refine vtI (y := 5) (by clear h; omega) ?_
        refine tt_istore7 hV rfl rfl (pc' := 85) rfl ?_
        refine r_aload_n hV rfl rfl (pc' := 86) rfl ?_
        refine tt_getI hV (tg := 0) (ci := 12) (kf := 40) rfl rfl (by decide) (hB _ _ rfl) rfl (by decide) (pc' := 89) rfl ?_
        refine r_iload hV rfl rfl (pc' := 91) rfl ?_
        obtain ⟨v91, m91, h, hr⟩ := h
        refine tt_cs2I hV rfl rfl rfl (Nat.le_of_ble_eq_true rfl) (Nat.le_of_ble_eq_true rfl) rfl hr (pc' := 94) rfl ?_
        obtain ⟨g17, h⟩ := h
        refine tt_if_eq hV rfl g17 (pt := 104) (by decide) (pf := 97) rfl (fun hc => ?_) (fun hc => ?_)
        · replace h := h.1 hc
          refine r_iload hV rfl rfl (pc' := 106) rfl ?_
          exact rq_ret (q := mI258) rfl rfl rfl h
        · replace h := h.2 hc
          refine r_iload hV rfl rfl (pc' := 99) rfl ?_
          refine tt_iconst hV rfl (pc' := 100) rfl ?_
          refine tt_isub hV rfl (pc' := 101) rfl ?_
          refine vtI (y := 3) (by clear h; omega) ?_
          refine r_goto hV rfl (pc' := 106) (by decide) ?_
          exact rq_ret (q := mI258) rfl rfl rfl h
      · replace h := h.2 (Decidable.not_not.mp hc)
        refine tt_iconst hV rfl (pc' := 78) rfl ?_
        refine r_goto hV rfl (pc' := 82) (by decide) ?_
        refine tt_isub hV rfl (pc' := 83) rfl ?_
        refine vtI (y := 6) (by clear h; omega) ?_
        refine tt_istore7 hV rfl rfl (pc' := 85) rfl ?_
        refine r_aload_n hV rfl rfl (pc' := 86) rfl ?_
        refine tt_getI hV (tg := 0) (ci := 12) (kf := 40) rfl rfl (by decide) (hB _ _ rfl) rfl (by decide) (pc' := 89) rfl ?_
        refine r_iload hV rfl rfl (pc' := 91) rfl ?_
        obtain ⟨v91, m91, h, hr⟩ := h
        refine tt_cs2I hV rfl rfl rfl (Nat.le_of_ble_eq_true rfl) (Nat.le_of_ble_eq_true rfl) rfl hr (pc' := 94) rfl ?_
        obtain ⟨g18, h⟩ := h
        refine tt_if_eq hV rfl g18 (pt := 104) (by decide) (pf := 97) rfl (fun hc => ?_) (fun hc => ?_)
        · replace h := h.1 hc
          refine r_iload hV rfl rfl (pc' := 106) rfl ?_
          exact rq_ret (q := mI258) rfl rfl rfl h
        · replace h := h.2 hc
          refine r_iload hV rfl rfl (pc' := 99) rfl ?_
          refine tt_iconst hV rfl (pc' := 100) rfl ?_
          refine tt_isub hV rfl (pc' := 101) rfl ?_
          refine vtI (y := 4) (by clear h; omega) ?_
          refine r_goto hV rfl (pc' := 106) (by decide) ?_
          exact rq_ret (q := mI258) rfl rfl rfl h
    · replace h := h.2 (Decidable.not_not.mp hc)
      refine r_iload_n hV rfl rfl (pc' := 68) rfl ?_
      refine r_goto hV rfl (pc' := 73) (by decide) ?_
      refine tt_iconst hV rfl (pc' := 74) rfl ?_
      obtain ⟨g19, h⟩ := h
      refine tt_icmp_ne hV rfl g19 (by decide) (pt := 81) (by decide) (pf := 77) rfl (fun hc => ?_) (fun hc => ?_)
      · replace h := h.1 hc
        refine tt_iconst hV rfl (pc' := 82) rfl ?_
        refine tt_isub hV rfl (pc' := 83) rfl ?_
        refine vtI (y := 5) (by clear h; omega) ?_
        refine tt_istore7 hV rfl rfl (pc' := 85) rfl ?_
        refine r_aload_n hV rfl rfl (pc' := 86) rfl ?_
        refine tt_getI hV (tg := 0) (ci := 12) (kf := 40) rfl rfl (by decide) (hB _ _ rfl) rfl (by decide) (pc' := 89) rfl ?_
        refine r_iload hV rfl rfl (pc' := 91) rfl ?_
        obtain ⟨v91, m91, h, hr⟩ := h
        refine tt_cs2I hV rfl rfl rfl (Nat.le_of_ble_eq_true rfl) (Nat.le_of_ble_eq_true rfl) rfl hr (pc' := 94) rfl ?_
        obtain ⟨g20, h⟩ := h
        refine tt_if_eq hV rfl g20 (pt := 104) (by decide) (pf := 97) rfl (fun hc => ?_) (fun hc => ?_)
        · replace h := h.1 hc
          refine r_iload hV rfl rfl (pc' := 106) rfl ?_
          exact rq_ret (q := mI258) rfl rfl rfl h
        · replace h := h.2 hc
          refine r_iload hV rfl rfl (pc' := 99) rfl ?_
          refine tt_iconst hV rfl (pc' := 100) rfl ?_
          refine tt_isub hV rfl (pc' := 101) rfl ?_
          refine vtI (y := 3) (by clear h; omega) ?_
          refine r_goto hV rfl (pc' := 106) (by decide) ?_
          exact rq_ret (q := mI258) rfl rfl rfl h
      · replace h := h.2 (Decidable.not_not.mp hc)
        refine tt_iconst hV rfl (pc' := 78) rfl ?_
        refine r_goto hV rfl (pc' := 82) (by decide) ?_
        refine tt_isub hV rfl (pc' := 83) rfl ?_
        refine vtI (y := 6) (by clear h; omega) ?_
        refine tt_istore7 hV rfl rfl (pc' := 85) rfl ?_
        refine r_aload_n hV rfl rfl (pc' := 86) rfl ?_
        refine tt_getI hV (tg := 0) (ci := 12) (kf := 40) rfl rfl (by decide) (hB _ _ rfl) rfl (by decide) (pc' := 89) rfl ?_
        refine r_iload hV rfl rfl (pc' := 91) rfl ?_
        obtain ⟨v91, m91, h, hr⟩ := h
        refine tt_cs2I hV rfl rfl rfl (Nat.le_of_ble_eq_true rfl) (Nat.le_of_ble_eq_true rfl) rfl hr (pc' := 94) rfl ?_
        obtain ⟨g21, h⟩ := h
        refine tt_if_eq hV rfl g21 (pt := 104) (by decide) (pf := 97) rfl (fun hc => ?_) (fun hc => ?_)
        · replace h := h.1 hc
          refine r_iload hV rfl rfl (pc' := 106) rfl ?_
          exact rq_ret (q := mI258) rfl rfl rfl h
        · replace h := h.2 hc
          refine r_iload hV rfl rfl (pc' := 99) rfl ?_
          refine tt_iconst hV rfl (pc' := 100) rfl ?_
          refine tt_isub hV rfl (pc' := 101) rfl ?_
          refine vtI (y := 4) (by clear h; omega) ?_
          refine r_goto hV rfl (pc' := 106) (by decide) ?_
          exact rq_ret (q := mI258) rfl rfl rfl h
theorem M_areTwow {X : Cx} {d : Nat} {x : Int} {y : Int} {m : Mm} {Q : Int → Mm → Prop} (hB : Bsh X.2.2.1) (h : M_isMember X d x m (fun v2 m2 => (-2147483648 ≤ v2 ∧ v2 < 2147483648) ∧ (v2 = 0 → Q 0 m2) ∧ (v2 ≠ 0 → M_isMember X d y m2 (fun v10 m10 => (-2147483648 ≤ v10 ∧ v10 < 2147483648) ∧ (v10 = 0 → Q 0 m10) ∧ (v10 ≠ 0 → (-2147483648 ≤ x ∧ x < 2147483648) ∧ (-2147483648 ≤ y ∧ y < 2147483648) ∧ (x = y → Q 0 m10) ∧ (x ≠ y → Q 1 m10)))))) : M_areTwo X (d + 1) x y m Q := by
  unfold M_areTwo
  have hV : Clo (gP X.1 X.2.1) (d + 1) 259 3 false (Rq (gP X.1 X.2.1) (d + 1) 259 X.2.2.1 X.2.2.2 Q) := Rq_clo (q := mI259) rfl
  refine r_aload_n hV rfl rfl (pc' := 1) rfl ?_
  refine r_iload_n hV rfl rfl (pc' := 2) rfl ?_
  obtain ⟨v2, m2, h, hr⟩ := h
  refine tt_cv1I hV rfl rfl rfl (Wd_obj (hB _ _ rfl)) (Nat.le_of_ble_eq_true rfl) (Nat.le_of_ble_eq_true rfl) rfl hr (pc' := 5) rfl ?_
  obtain ⟨g1, h⟩ := h
  refine tt_if_eq hV rfl g1 (pt := 25) (by decide) (pf := 8) rfl (fun hc => ?_) (fun hc => ?_)
  · replace h := h.1 hc
    refine tt_iconst hV rfl (pc' := 26) rfl ?_
    exact rq_ret (q := mI259) rfl rfl rfl h
  · replace h := h.2 hc
    refine r_aload_n hV rfl rfl (pc' := 9) rfl ?_
    refine r_iload_n hV rfl rfl (pc' := 10) rfl ?_
    obtain ⟨v10, m10, h, hr⟩ := h
    refine tt_cv1I hV rfl rfl rfl (Wd_obj (hB _ _ rfl)) (Nat.le_of_ble_eq_true rfl) (Nat.le_of_ble_eq_true rfl) rfl hr (pc' := 13) rfl ?_
    obtain ⟨g2, h⟩ := h
    refine tt_if_eq hV rfl g2 (pt := 25) (by decide) (pf := 16) rfl (fun hc => ?_) (fun hc => ?_)
    · replace h := h.1 hc
      refine tt_iconst hV rfl (pc' := 26) rfl ?_
      exact rq_ret (q := mI259) rfl rfl rfl h
    · replace h := h.2 hc
      refine r_iload_n hV rfl rfl (pc' := 17) rfl ?_
      refine r_iload_n hV rfl rfl (pc' := 18) rfl ?_
      obtain ⟨g3, h⟩ := h
      obtain ⟨g4, h⟩ := h
      refine tt_icmp_eq hV rfl g3 g4 (pt := 25) (by decide) (pf := 21) rfl (fun hc => ?_) (fun hc => ?_)
      · replace h := h.1 hc
        refine tt_iconst hV rfl (pc' := 26) rfl ?_
        exact rq_ret (q := mI259) rfl rfl rfl h
      · replace h := h.2 hc
        refine tt_iconst hV rfl (pc' := 22) rfl ?_
        refine r_goto hV rfl (pc' := 26) (by decide) ?_
        exact rq_ret (q := mI259) rfl rfl rfl h
theorem M_gamew {X : Cx} {d : Nat} {x : Int} {y : Int} {z : Int} {u : Int} {v : Int} {m : Mm} {Q : Int → Mm → Prop} (hB : Bsh X.2.2.1) (h : M_areTwo X d x y m (fun v3 m3 => (-2147483648 ≤ v3 ∧ v3 < 2147483648) ∧ (v3 = 0 → Q (-1000000) m3) ∧ (v3 ≠ 0 → M_in X d z 0 2 m3 (fun v12 m12 => (-2147483648 ≤ v12 ∧ v12 < 2147483648) ∧ (v12 = 0 → Q (-1000000) m12) ∧ (v12 ≠ 0 → M_in X d u 0 2 m12 (fun v22 m22 => (-2147483648 ≤ v22 ∧ v22 < 2147483648) ∧ (v22 = 0 → Q (-1000000) m22) ∧ (v22 ≠ 0 → M_in X d v 0 1 m22 (fun v32 m32 => (-2147483648 ≤ v32 ∧ v32 < 2147483648) ∧ (v32 ≠ 0 → (-2147483648 ≤ v ∧ v < 2147483648) ∧ (v ≠ 0 → M_gameOf X d x y z u y m32 (fun v58 m58 => Q v58 m58)) ∧ (v = 0 → M_gameOf X d x y z u x m32 (fun v58 m58 => Q v58 m58))) ∧ (v32 = 0 → Q (-1000000) m32))))))))) : M_game X (d + 1) x y z u v m Q := by
  unfold M_game
  have hV : Clo (gP X.1 X.2.1) (d + 1) 260 6 false (Rq (gP X.1 X.2.1) (d + 1) 260 X.2.2.1 X.2.2.2 Q) := Rq_clo (q := mI260) rfl
  refine r_aload_n hV rfl rfl (pc' := 1) rfl ?_
  refine r_iload_n hV rfl rfl (pc' := 2) rfl ?_
  refine r_iload_n hV rfl rfl (pc' := 3) rfl ?_
  obtain ⟨v3, m3, h, hr⟩ := h
  refine tt_cv2I hV rfl rfl rfl (Wd_obj (hB _ _ rfl)) (Nat.le_of_ble_eq_true rfl) (Nat.le_of_ble_eq_true rfl) rfl hr (pc' := 6) rfl ?_
  obtain ⟨g1, h⟩ := h
  refine tt_if_eq hV rfl g1 (pt := 38) (by decide) (pf := 9) rfl (fun hc => ?_) (fun hc => ?_)
  · replace h := h.1 hc
    refine v_ldcw hV (Int32.ofInt (-1000000)) rfl rfl rfl (pc' := 41) rfl ?_
    exact rq_ret (q := mI260) rfl rfl rfl h
  · replace h := h.2 hc
    refine r_iload_n hV rfl rfl (pc' := 10) rfl ?_
    refine tt_iconst hV rfl (pc' := 11) rfl ?_
    refine tt_iconst hV rfl (pc' := 12) rfl ?_
    obtain ⟨v12, m12, h, hr⟩ := h
    refine tt_cs3I hV rfl rfl rfl (Nat.le_of_ble_eq_true rfl) (Nat.le_of_ble_eq_true rfl) rfl hr (pc' := 15) rfl ?_
    obtain ⟨g2, h⟩ := h
    refine tt_if_eq hV rfl g2 (pt := 38) (by decide) (pf := 18) rfl (fun hc => ?_) (fun hc => ?_)
    · replace h := h.1 hc
      refine v_ldcw hV (Int32.ofInt (-1000000)) rfl rfl rfl (pc' := 41) rfl ?_
      exact rq_ret (q := mI260) rfl rfl rfl h
    · replace h := h.2 hc
      refine r_iload hV rfl rfl (pc' := 20) rfl ?_
      refine tt_iconst hV rfl (pc' := 21) rfl ?_
      refine tt_iconst hV rfl (pc' := 22) rfl ?_
      obtain ⟨v22, m22, h, hr⟩ := h
      refine tt_cs3I hV rfl rfl rfl (Nat.le_of_ble_eq_true rfl) (Nat.le_of_ble_eq_true rfl) rfl hr (pc' := 25) rfl ?_
      obtain ⟨g3, h⟩ := h
      refine tt_if_eq hV rfl g3 (pt := 38) (by decide) (pf := 28) rfl (fun hc => ?_) (fun hc => ?_)
      · replace h := h.1 hc
        refine v_ldcw hV (Int32.ofInt (-1000000)) rfl rfl rfl (pc' := 41) rfl ?_
        exact rq_ret (q := mI260) rfl rfl rfl h
      · replace h := h.2 hc
        refine r_iload hV rfl rfl (pc' := 30) rfl ?_
        refine tt_iconst hV rfl (pc' := 31) rfl ?_
        refine tt_iconst hV rfl (pc' := 32) rfl ?_
        obtain ⟨v32, m32, h, hr⟩ := h
        refine tt_cs3I hV rfl rfl rfl (Nat.le_of_ble_eq_true rfl) (Nat.le_of_ble_eq_true rfl) rfl hr (pc' := 35) rfl ?_
        obtain ⟨g4, h⟩ := h
        refine tt_if_ne hV rfl g4 (pt := 42) (by decide) (pf := 38) rfl (fun hc => ?_) (fun hc => ?_)
        · replace h := h.1 hc
          refine r_aload_n hV rfl rfl (pc' := 43) rfl ?_
          refine r_iload_n hV rfl rfl (pc' := 44) rfl ?_
          refine r_iload_n hV rfl rfl (pc' := 45) rfl ?_
          refine r_iload_n hV rfl rfl (pc' := 46) rfl ?_
          refine r_iload hV rfl rfl (pc' := 48) rfl ?_
          refine r_iload hV rfl rfl (pc' := 50) rfl ?_
          obtain ⟨g5, h⟩ := h
          refine tt_if_ne hV rfl g5 (pt := 57) (by decide) (pf := 53) rfl (fun hc => ?_) (fun hc => ?_)
          · replace h := h.1 hc
            refine r_iload_n hV rfl rfl (pc' := 58) rfl ?_
            obtain ⟨v58, m58, h, hr⟩ := h
            refine tt_cv5I hV rfl rfl rfl (Wd_obj (hB _ _ rfl)) (Nat.le_of_ble_eq_true rfl) (Nat.le_of_ble_eq_true rfl) rfl hr (pc' := 61) rfl ?_
            exact rq_ret (q := mI260) rfl rfl rfl h
          · replace h := h.2 (Decidable.not_not.mp hc)
            refine r_iload_n hV rfl rfl (pc' := 54) rfl ?_
            refine r_goto hV rfl (pc' := 58) (by decide) ?_
            obtain ⟨v58, m58, h, hr⟩ := h
            refine tt_cv5I hV rfl rfl rfl (Wd_obj (hB _ _ rfl)) (Nat.le_of_ble_eq_true rfl) (Nat.le_of_ble_eq_true rfl) rfl hr (pc' := 61) rfl ?_
            exact rq_ret (q := mI260) rfl rfl rfl h
        · replace h := h.2 (Decidable.not_not.mp hc)
          refine v_ldcw hV (Int32.ofInt (-1000000)) rfl rfl rfl (pc' := 41) rfl ?_
          exact rq_ret (q := mI260) rfl rfl rfl h
theorem M_isRestw {X : Cx} {d : Nat} {x : Int} {y : Int} {z : Int} {u : Int} {m : Mm} {Q : Int → Mm → Prop} (hB : Bsh X.2.2.1) (h : M_isRest_3 X (d + 1) x y z u 0 m Q) : M_isRest X (d + 1) x y z u m Q := by
  unfold M_isRest
  have hV : Clo (gP X.1 X.2.1) (d + 1) 261 6 false (Rq (gP X.1 X.2.1) (d + 1) 261 X.2.2.1 X.2.2.2 Q) := Rq_clo (q := mI261) rfl
  refine tt_iconst hV rfl (pc' := 1) rfl ?_
  refine tt_istore5 hV rfl rfl (pc' := 3) rfl ?_
  exact h
theorem M_isRest_3w {X : Cx} {d : Nat} {x : Int} {y : Int} {z : Int} {u : Int} {l5 : Int} {m : Mm} {Q : Int → Mm → Prop} (hB : Bsh X.2.2.1) (h : (-2147483648 ≤ l5 ∧ l5 < 2147483648) ∧ (3 ≤ l5 → Q 1 m) ∧ (l5 < 3 → M_gameOf X d x y l5 u x m (fun v17 m17 => M_gameOf X d x y z u x m17 (fun v27 m27 => (-2147483648 ≤ v17 ∧ v17 < 2147483648) ∧ (-2147483648 ≤ v27 ∧ v27 < 2147483648) ∧ (v27 < v17 → Q 0 m27) ∧ (v17 ≤ v27 → M_gameOf X d x y z l5 y m27 (fun v40 m40 => M_gameOf X d x y z u y m40 (fun v50 m50 => (-2147483648 ≤ v40 ∧ v40 < 2147483648) ∧ (-2147483648 ≤ v50 ∧ v50 < 2147483648) ∧ (v40 ≤ v50 → M_isRest_3 X (d + 1) x y z u (l5 + 1) m50 Q) ∧ (v50 < v40 → Q 0 m50)))))))) : M_isRest_3 X (d + 1) x y z u l5 m Q := by
  unfold M_isRest_3
  have hV : Clo (gP X.1 X.2.1) (d + 1) 261 6 false (Rq (gP X.1 X.2.1) (d + 1) 261 X.2.2.1 X.2.2.2 Q) := Rq_clo (q := mI261) rfl
  refine r_iload hV rfl rfl (pc' := 5) rfl ?_
  refine tt_iconst hV rfl (pc' := 6) rfl ?_
  obtain ⟨g1, h⟩ := h
  refine tt_icmp_ge hV rfl g1 (by decide) (pt := 64) (by decide) (pf := 9) rfl (fun hc => ?_) (fun hc => ?_)
  · replace h := h.1 hc
    refine tt_iconst hV rfl (pc' := 65) rfl ?_
    exact rq_ret (q := mI261) rfl rfl rfl h
  · replace h := h.2 (Int.not_le.mp hc)
    refine r_aload_n hV rfl rfl (pc' := 10) rfl ?_
    refine r_iload_n hV rfl rfl (pc' := 11) rfl ?_
    refine r_iload_n hV rfl rfl (pc' := 12) rfl ?_
    refine r_iload hV rfl rfl (pc' := 14) rfl ?_
    refine r_iload hV rfl rfl (pc' := 16) rfl ?_
    refine r_iload_n hV rfl rfl (pc' := 17) rfl ?_
    obtain ⟨v17, m17, h, hr⟩ := h
    refine tt_cv5I hV rfl rfl rfl (Wd_obj (hB _ _ rfl)) (Nat.le_of_ble_eq_true rfl) (Nat.le_of_ble_eq_true rfl) rfl hr (pc' := 20) rfl ?_
    refine r_aload_n hV rfl rfl (pc' := 21) rfl ?_
    refine r_iload_n hV rfl rfl (pc' := 22) rfl ?_
    refine r_iload_n hV rfl rfl (pc' := 23) rfl ?_
    refine r_iload_n hV rfl rfl (pc' := 24) rfl ?_
    refine r_iload hV rfl rfl (pc' := 26) rfl ?_
    refine r_iload_n hV rfl rfl (pc' := 27) rfl ?_
    obtain ⟨v27, m27, h, hr⟩ := h
    refine tt_cv5I hV rfl rfl rfl (Wd_obj (hB _ _ rfl)) (Nat.le_of_ble_eq_true rfl) (Nat.le_of_ble_eq_true rfl) rfl hr (pc' := 30) rfl ?_
    obtain ⟨g2, h⟩ := h
    obtain ⟨g3, h⟩ := h
    refine tt_icmp_gt hV rfl g2 g3 (pt := 56) (by decide) (pf := 33) rfl (fun hc => ?_) (fun hc => ?_)
    · replace h := h.1 hc
      refine tt_iconst hV rfl (pc' := 57) rfl ?_
      exact rq_ret (q := mI261) rfl rfl rfl h
    · replace h := h.2 (Int.not_lt.mp hc)
      refine r_aload_n hV rfl rfl (pc' := 34) rfl ?_
      refine r_iload_n hV rfl rfl (pc' := 35) rfl ?_
      refine r_iload_n hV rfl rfl (pc' := 36) rfl ?_
      refine r_iload_n hV rfl rfl (pc' := 37) rfl ?_
      refine r_iload hV rfl rfl (pc' := 39) rfl ?_
      refine r_iload_n hV rfl rfl (pc' := 40) rfl ?_
      obtain ⟨v40, m40, h, hr⟩ := h
      refine tt_cv5I hV rfl rfl rfl (Wd_obj (hB _ _ rfl)) (Nat.le_of_ble_eq_true rfl) (Nat.le_of_ble_eq_true rfl) rfl hr (pc' := 43) rfl ?_
      refine r_aload_n hV rfl rfl (pc' := 44) rfl ?_
      refine r_iload_n hV rfl rfl (pc' := 45) rfl ?_
      refine r_iload_n hV rfl rfl (pc' := 46) rfl ?_
      refine r_iload_n hV rfl rfl (pc' := 47) rfl ?_
      refine r_iload hV rfl rfl (pc' := 49) rfl ?_
      refine r_iload_n hV rfl rfl (pc' := 50) rfl ?_
      obtain ⟨v50, m50, h, hr⟩ := h
      refine tt_cv5I hV rfl rfl rfl (Wd_obj (hB _ _ rfl)) (Nat.le_of_ble_eq_true rfl) (Nat.le_of_ble_eq_true rfl) rfl hr (pc' := 53) rfl ?_
      obtain ⟨g4, h⟩ := h
      obtain ⟨g5, h⟩ := h
      refine tt_icmp_le hV rfl g4 g5 (pt := 58) (by decide) (pf := 56) rfl (fun hc => ?_) (fun hc => ?_)
      · replace h := h.1 hc
        refine tt_iinc5 hV rfl rfl (pc' := 61) rfl ?_
        refine r_goto hV rfl (pc' := 3) (by decide) ?_
        exact h
      · replace h := h.2 (Int.not_le.mp hc)
        refine tt_iconst hV rfl (pc' := 57) rfl ?_
        exact rq_ret (q := mI261) rfl rfl rfl h
