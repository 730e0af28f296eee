/-! ===== what is wanted at a place ===== -/
theorem M_restsw {X : Cx} {d : Nat} {x : Int} {y : Int} {z : Int} {m : Mm} {Q : Int → Mm → Prop} (hB : Bsh X.2.2.1) (h : M_areTwo X d x y m (fun v3 m3 => (-2147483648 ≤ v3 ∧ v3 < 2147483648) ∧ (v3 = 0 → Q (-1) m3) ∧ (v3 ≠ 0 → (-2147483648 ≤ z ∧ z < 2147483648) ∧ (-1 ≤ z → M_rests_22 X (d + 1) x y z 0 0 m3 Q) ∧ (z < -1 → Q (-1) m3)))) : M_rests X (d + 1) x y z m Q := by
  unfold M_rests
  have hV : Clo (gP X.1 X.2.1) (d + 1) 262 6 false (Rq (gP X.1 X.2.1) (d + 1) 262 X.2.2.1 X.2.2.2 Q) := Rq_clo (q := mI262) rfl
  refine r_aload_n hV rfl rfl (pc' := 1) rfl ?_
  refine r_iload_n hV rfl rfl (pc' := 2) rfl ?_
  refine r_iload_n hV rfl rfl (pc' := 3) rfl ?_
  obtain ⟨v3, m3, h, hr⟩ := h
  refine tt_cv2I hV rfl rfl rfl (Wd_obj (hB _ _ rfl)) (Nat.le_of_ble_eq_true rfl) (Nat.le_of_ble_eq_true rfl) rfl hr (pc' := 6) rfl ?_
  obtain ⟨g1, h⟩ := h
  refine tt_if_eq hV rfl g1 (pt := 14) (by decide) (pf := 9) rfl (fun hc => ?_) (fun hc => ?_)
  · replace h := h.1 hc
    refine tt_iconst hV rfl (pc' := 15) rfl ?_
    exact rq_ret (q := mI262) rfl rfl rfl h
  · replace h := h.2 hc
    refine r_iload_n hV rfl rfl (pc' := 10) rfl ?_
    refine tt_iconst hV rfl (pc' := 11) rfl ?_
    obtain ⟨g2, h⟩ := h
    refine tt_icmp_ge hV rfl g2 (by decide) (pt := 16) (by decide) (pf := 14) rfl (fun hc => ?_) (fun hc => ?_)
    · replace h := h.1 hc
      refine tt_iconst hV rfl (pc' := 17) rfl ?_
      refine tt_istore4 hV rfl rfl (pc' := 19) rfl ?_
      refine tt_iconst hV rfl (pc' := 20) rfl ?_
      refine tt_istore5 hV rfl rfl (pc' := 22) rfl ?_
      exact h
    · replace h := h.2 (Int.not_le.mp hc)
      refine tt_iconst hV rfl (pc' := 15) rfl ?_
      exact rq_ret (q := mI262) rfl rfl rfl h
theorem M_rests_22w {X : Cx} {d : Nat} {x : Int} {y : Int} {z : Int} {l4 : Int} {l5 : Int} {m : Mm} {Q : Int → Mm → Prop} (hB : Bsh X.2.2.1) (h : (-2147483648 ≤ l5 ∧ l5 < 2147483648) ∧ (9 ≤ l5 → (-2147483648 ≤ z ∧ z < 2147483648) ∧ (z ≠ -1 → Q (-1) m) ∧ (z = -1 → Q l4 m)) ∧ (l5 < 9 → M_isRest X d x y ((iDv l5 3)) ((iRm l5 3)) m (fun v40 m40 => (-2147483648 ≤ v40 ∧ v40 < 2147483648) ∧ (v40 = 0 → M_rests_22 X (d + 1) x y z l4 (l5 + 1) m40 Q) ∧ (v40 ≠ 0 → (-2147483648 ≤ l4 ∧ l4 < 2147483648) ∧ (-2147483648 ≤ z ∧ z < 2147483648) ∧ (l4 ≠ z → M_rests_22 X (d + 1) x y z (l4 + 1) (l5 + 1) m40 Q) ∧ (l4 = z → Q (10 * (iDv l5 3) + (iRm l5 3)) m40))))) : M_rests_22 X (d + 1) x y z l4 l5 m Q := by
  unfold M_rests_22
  have hV : Clo (gP X.1 X.2.1) (d + 1) 262 6 false (Rq (gP X.1 X.2.1) (d + 1) 262 X.2.2.1 X.2.2.2 Q) := Rq_clo (q := mI262) rfl
  refine r_iload hV rfl rfl (pc' := 24) rfl ?_
  refine tt_bipush hV rfl (by decide) (pc' := 26) rfl ?_
  obtain ⟨g3, h⟩ := h
  refine tt_icmp_ge hV rfl g3 (by decide) (pt := 74) (by decide) (pf := 29) rfl (fun hc => ?_) (fun hc => ?_)
  · replace h := h.1 hc
    refine r_iload_n hV rfl rfl (pc' := 75) rfl ?_
    refine tt_iconst hV rfl (pc' := 76) rfl ?_
    obtain ⟨g4, h⟩ := h
    refine tt_icmp_ne hV rfl g4 (by decide) (pt := 84) (by decide) (pf := 79) rfl (fun hc => ?_) (fun hc => ?_)
    · replace h := h.1 hc
      refine tt_iconst hV rfl (pc' := 85) rfl ?_
      exact rq_ret (q := mI262) rfl rfl rfl h
    · replace h := h.2 (Decidable.not_not.mp hc)
      refine r_iload hV rfl rfl (pc' := 81) rfl ?_
      refine r_goto hV rfl (pc' := 85) (by decide) ?_
      exact rq_ret (q := mI262) rfl rfl rfl h
  · replace h := h.2 (Int.not_le.mp hc)
    refine r_aload_n hV rfl rfl (pc' := 30) rfl ?_
    refine r_iload_n hV rfl rfl (pc' := 31) rfl ?_
    refine r_iload_n hV rfl rfl (pc' := 32) rfl ?_
    refine r_iload hV rfl rfl (pc' := 34) rfl ?_
    refine tt_iconst hV rfl (pc' := 35) rfl ?_
    refine tt_idiv hV rfl (by decide) (pc' := 36) rfl ?_
    refine r_iload hV rfl rfl (pc' := 38) rfl ?_
    refine tt_iconst hV rfl (pc' := 39) rfl ?_
    refine tt_irem hV rfl (by decide) (pc' := 40) rfl ?_
    obtain ⟨v40, m40, h, hr⟩ := h
    refine tt_cv4I hV rfl rfl rfl (Wd_obj (hB _ _ rfl)) (Nat.le_of_ble_eq_true rfl) (Nat.le_of_ble_eq_true rfl) rfl hr (pc' := 43) rfl ?_
    obtain ⟨g5, h⟩ := h
    refine tt_if_eq hV rfl g5 (pt := 68) (by decide) (pf := 46) rfl (fun hc => ?_) (fun hc => ?_)
    · replace h := h.1 hc
      refine tt_iinc5 hV rfl rfl (pc' := 71) rfl ?_
      refine r_goto hV rfl (pc' := 22) (by decide) ?_
      exact h
    · replace h := h.2 hc
      refine r_iload hV rfl rfl (pc' := 48) rfl ?_
      refine r_iload_n hV rfl rfl (pc' := 49) rfl ?_
      obtain ⟨g6, h⟩ := h
      obtain ⟨g7, h⟩ := h
      refine tt_icmp_ne hV rfl g6 g7 (pt := 65) (by decide) (pf := 52) rfl (fun hc => ?_) (fun hc => ?_)
      · replace h := h.1 hc
        refine tt_iinc4 hV rfl rfl (pc' := 68) rfl ?_
        refine tt_iinc5 hV rfl rfl (pc' := 71) rfl ?_
        refine r_goto hV rfl (pc' := 22) (by decide) ?_
        exact h
      · replace h := h.2 (Decidable.not_not.mp hc)
        refine tt_bipush hV rfl (by decide) (pc' := 54) rfl ?_
        refine r_iload hV rfl rfl (pc' := 56) rfl ?_
        refine tt_iconst hV rfl (pc' := 57) rfl ?_
        refine tt_idiv hV rfl (by decide) (pc' := 58) rfl ?_
        refine tt_imul hV rfl (pc' := 59) rfl ?_
        refine r_iload hV rfl rfl (pc' := 61) rfl ?_
        refine tt_iconst hV rfl (pc' := 62) rfl ?_
        refine tt_irem hV rfl (by decide) (pc' := 63) rfl ?_
        refine tt_iadd hV rfl (pc' := 64) rfl ?_
        exact rq_ret (q := mI262) rfl rfl rfl h
theorem M_knowsw {X : Cx} {d : Nat} {x : Int} {y : Int} {m : Mm} {Q : Int → Mm → Prop} (hB : Bsh X.2.2.1) (h : M_isMember X d x m (fun v2 m2 => (-2147483648 ≤ v2 ∧ v2 < 2147483648) ∧ (v2 = 0 → Q (-1) m2) ∧ (v2 ≠ 0 → M_isBump X d y m2 (fun v10 m10 => (-2147483648 ≤ v10 ∧ v10 < 2147483648) ∧ (v10 = 0 → Q (-1) m10) ∧ (v10 ≠ 0 → M_isOn X d x m10 (fun v18 m18 => (-2147483648 ≤ v18 ∧ v18 < 2147483648) ∧ (v18 = 0 → Q (-1) m18) ∧ (v18 ≠ 0 → M_has X d (m18 101 19) y m18 (fun v32 m32 => (-2147483648 ≤ v32 ∧ v32 < 2147483648) ∧ (v32 ≠ 0 → Q (-1) m32) ∧ (v32 = 0 → M_ofBump X d y 0 m32 (fun v41 m41 => (-2147483648 ≤ v41 ∧ v41 < 2147483648) ∧ (-2147483648 ≤ (m41 101 21) ∧ (m41 101 21) < 2147483648) ∧ (m41 101 21 < v41 → M_ofBump X d y 0 m41 (fun v59 m59 => M_knows_66 X (d + 1) x y v59 0 none m59 Q)) ∧ (v41 ≤ m41 101 21 → Q (-1) m41))))))))))) : M_knows X (d + 1) x y m Q := by
  unfold M_knows
  have hV : Clo (gP X.1 X.2.1) (d + 1) 263 6 false (Rq (gP X.1 X.2.1) (d + 1) 263 X.2.2.1 X.2.2.2 Q) := Rq_clo (q := mI263) rfl
  refine r_aload_n hV rfl rfl (pc' := 1) rfl ?_
  refine r_iload_n hV rfl rfl (pc' := 2) rfl ?_
  obtain ⟨v2, m2, h, hr⟩ := h
  refine tt_cv1I hV rfl rfl rfl (Wd_obj (hB _ _ rfl)) (Nat.le_of_ble_eq_true rfl) (Nat.le_of_ble_eq_true rfl) rfl hr (pc' := 5) rfl ?_
  obtain ⟨g1, h⟩ := h
  refine tt_if_eq hV rfl g1 (pt := 54) (by decide) (pf := 8) rfl (fun hc => ?_) (fun hc => ?_)
  · replace h := h.1 hc
    refine tt_iconst hV rfl (pc' := 55) rfl ?_
    exact rq_ret (q := mI263) rfl rfl rfl h
  · replace h := h.2 hc
    refine r_aload_n hV rfl rfl (pc' := 9) rfl ?_
    refine r_iload_n hV rfl rfl (pc' := 10) rfl ?_
    obtain ⟨v10, m10, h, hr⟩ := h
    refine tt_cv1I hV rfl rfl rfl (Wd_obj (hB _ _ rfl)) (Nat.le_of_ble_eq_true rfl) (Nat.le_of_ble_eq_true rfl) rfl hr (pc' := 13) rfl ?_
    obtain ⟨g2, h⟩ := h
    refine tt_if_eq hV rfl g2 (pt := 54) (by decide) (pf := 16) rfl (fun hc => ?_) (fun hc => ?_)
    · replace h := h.1 hc
      refine tt_iconst hV rfl (pc' := 55) rfl ?_
      exact rq_ret (q := mI263) rfl rfl rfl h
    · replace h := h.2 hc
      refine r_aload_n hV rfl rfl (pc' := 17) rfl ?_
      refine r_iload_n hV rfl rfl (pc' := 18) rfl ?_
      obtain ⟨v18, m18, h, hr⟩ := h
      refine tt_cv1I hV rfl rfl rfl (Wd_obj (hB _ _ rfl)) (Nat.le_of_ble_eq_true rfl) (Nat.le_of_ble_eq_true rfl) rfl hr (pc' := 21) rfl ?_
      obtain ⟨g3, h⟩ := h
      refine tt_if_eq hV rfl g3 (pt := 54) (by decide) (pf := 24) rfl (fun hc => ?_) (fun hc => ?_)
      · replace h := h.1 hc
        refine tt_iconst hV rfl (pc' := 55) rfl ?_
        exact rq_ret (q := mI263) rfl rfl rfl h
      · replace h := h.2 hc
        refine r_aload_n hV rfl rfl (pc' := 25) rfl ?_
        refine tt_getR hV (tg := 6) (ci := 12) (kf := 30) rfl rfl (by decide) (hB _ _ rfl) rfl (by decide) (pc' := 28) rfl ?_
        refine tt_bipush hV rfl (by decide) (pc' := 30) rfl ?_
        refine q_iald hV rfl (hB _ _ rfl) (Nat.le_of_ble_eq_true rfl) rfl (by decide) (pc' := 31) rfl ?_
        refine r_iload_n hV rfl rfl (pc' := 32) rfl ?_
        obtain ⟨v32, m32, h, hr⟩ := h
        refine tt_cs2I hV rfl rfl rfl (Nat.le_of_ble_eq_true rfl) (Nat.le_of_ble_eq_true rfl) rfl hr (pc' := 35) rfl ?_
        obtain ⟨g4, h⟩ := h
        refine tt_if_ne hV rfl g4 (pt := 54) (by decide) (pf := 38) rfl (fun hc => ?_) (fun hc => ?_)
        · replace h := h.1 hc
          refine tt_iconst hV rfl (pc' := 55) rfl ?_
          exact rq_ret (q := mI263) rfl rfl rfl h
        · replace h := h.2 (Decidable.not_not.mp hc)
          refine r_aload_n hV rfl rfl (pc' := 39) rfl ?_
          refine r_iload_n hV rfl rfl (pc' := 40) rfl ?_
          refine tt_iconst hV rfl (pc' := 41) rfl ?_
          obtain ⟨v41, m41, h, hr⟩ := h
          refine tt_cv2I hV rfl rfl rfl (Wd_obj (hB _ _ rfl)) (Nat.le_of_ble_eq_true rfl) (Nat.le_of_ble_eq_true rfl) rfl hr (pc' := 44) rfl ?_
          refine r_aload_n hV rfl rfl (pc' := 45) rfl ?_
          refine tt_getR hV (tg := 6) (ci := 12) (kf := 30) rfl rfl (by decide) (hB _ _ rfl) rfl (by decide) (pc' := 48) rfl ?_
          refine tt_bipush hV rfl (by decide) (pc' := 50) rfl ?_
          refine q_iald hV rfl (hB _ _ rfl) (Nat.le_of_ble_eq_true rfl) rfl (by decide) (pc' := 51) rfl ?_
          obtain ⟨g5, h⟩ := h
          obtain ⟨g6, h⟩ := h
          refine tt_icmp_gt hV rfl g5 g6 (pt := 56) (by decide) (pf := 54) rfl (fun hc => ?_) (fun hc => ?_)
          · replace h := h.1 hc
            refine r_aload_n hV rfl rfl (pc' := 57) rfl ?_
            refine r_iload_n hV rfl rfl (pc' := 58) rfl ?_
            refine tt_iconst hV rfl (pc' := 59) rfl ?_
            obtain ⟨v59, m59, h, hr⟩ := h
            refine tt_cv2I hV rfl rfl rfl (Wd_obj (hB _ _ rfl)) (Nat.le_of_ble_eq_true rfl) (Nat.le_of_ble_eq_true rfl) rfl hr (pc' := 62) rfl ?_
            refine tt_istore3 hV rfl rfl (pc' := 63) rfl ?_
            refine tt_iconst hV rfl (pc' := 64) rfl ?_
            refine tt_istore4 hV rfl rfl (pc' := 66) rfl ?_
            exact h
          · replace h := h.2 (Int.not_lt.mp hc)
            refine tt_iconst hV rfl (pc' := 55) rfl ?_
            exact rq_ret (q := mI263) rfl rfl rfl h
theorem M_knows_66w {X : Cx} {d : Nat} {x : Int} {y : Int} {l3 : Int} {l4 : Int} {o5 : Option Int} {m : Mm} {Q : Int → Mm → Prop} (hB : Bsh X.2.2.1) (h : (-2147483648 ≤ l4 ∧ l4 < 2147483648) ∧ (-2147483648 ≤ (m 83 28) ∧ (m 83 28) < 2147483648) ∧ (m 83 28 ≤ l4 → M_ofBump X d y 0 m (fun v153 m153 => (-2147483648 ≤ l3 ∧ l3 < 2147483648) ∧ (-2147483648 ≤ v153 ∧ v153 < 2147483648) ∧ (v153 ≤ l3 → Q (-1) m153) ∧ (l3 < v153 → Q l3 m153))) ∧ (l4 < m 83 28 → (0 ≤ x + 12 ∧ x + 12 < 205) ∧ (0 ≤ l4 + 12 ∧ l4 + 12 < 205) ∧ M_isOn X d l4 m (fun v100 m100 => (-2147483648 ≤ v100 ∧ v100 < 2147483648) ∧ (v100 = 0 → M_knows_66 X (d + 1) x y l3 (l4 + 1) (some (m 101 (x + 12) - (m 101 (l4 + 12)))) m100 Q) ∧ (v100 ≠ 0 → (-2147483648 ≤ (m 101 (x + 12) - (m 101 (l4 + 12))) ∧ (m 101 (x + 12) - (m 101 (l4 + 12))) < 2147483648) ∧ (m 101 (x + 12) - (m 101 (l4 + 12)) < 0 → M_knows_66 X (d + 1) x y l3 (l4 + 1) (some (m 101 (x + 12) - (m 101 (l4 + 12)))) m100 Q) ∧ (0 ≤ m 101 (x + 12) - (m 101 (l4 + 12)) → M_ofBump X d y 0 m100 (fun v122 m122 => M_of X d l4 3 m122 (fun v129 m129 => (-2147483648 ≤ (m100 101 21) ∧ (m100 101 21) < 2147483648) ∧ (-2147483648 ≤ (v122 - v129) ∧ (v122 - v129) < 2147483648) ∧ (-2147483648 ≤ l3 ∧ l3 < 2147483648) ∧ (-2147483648 ≤ ((max (m100 101 21) (v122 - v129)) + m 101 (x + 12) - (m 101 (l4 + 12))) ∧ ((max (m100 101 21) (v122 - v129)) + m 101 (x + 12) - (m 101 (l4 + 12))) < 2147483648) ∧ M_knows_66 X (d + 1) x y ((min l3 ((max (m100 101 21) (v122 - v129)) + m 101 (x + 12) - (m 101 (l4 + 12))))) (l4 + 1) (some (m 101 (x + 12) - (m 101 (l4 + 12)))) m129 Q))))))) : M_knows_66 X (d + 1) x y l3 l4 o5 m Q := by
  unfold M_knows_66
  have hV : Clo (gP X.1 X.2.1) (d + 1) 263 6 false (Rq (gP X.1 X.2.1) (d + 1) 263 X.2.2.1 X.2.2.2 Q) := Rq_clo (q := mI263) rfl
  refine r_iload hV rfl rfl (pc' := 68) rfl ?_
  refine r_aload_n hV rfl rfl (pc' := 69) rfl ?_
  refine tt_getI hV (tg := 0) (ci := 12) (kf := 28) rfl rfl (by decide) (hB _ _ rfl) rfl (by decide) (pc' := 72) rfl ?_
  obtain ⟨g7, h⟩ := h
  obtain ⟨g8, h⟩ := h
  refine tt_icmp_ge hV rfl g7 g8 (pt := 149) (by decide) (pf := 75) rfl (fun hc => ?_) (fun hc => ?_)
  · replace h := h.1 hc
    refine r_iload_n hV rfl rfl (pc' := 150) rfl ?_
    refine r_aload_n hV rfl rfl (pc' := 151) rfl ?_
    refine r_iload_n hV rfl rfl (pc' := 152) rfl ?_
    refine tt_iconst hV rfl (pc' := 153) rfl ?_
    obtain ⟨v153, m153, h, hr⟩ := h
    refine tt_cv2I hV rfl rfl rfl (Wd_obj (hB _ _ rfl)) (Nat.le_of_ble_eq_true rfl) (Nat.le_of_ble_eq_true rfl) rfl hr (pc' := 156) rfl ?_
    obtain ⟨g9, h⟩ := h
    obtain ⟨g10, h⟩ := h
    refine tt_icmp_ge hV rfl g9 g10 (pt := 163) (by decide) (pf := 159) rfl (fun hc => ?_) (fun hc => ?_)
    · replace h := h.1 hc
      refine tt_iconst hV rfl (pc' := 164) rfl ?_
      exact rq_ret (q := mI263) rfl rfl rfl h
    · replace h := h.2 (Int.not_le.mp hc)
      refine r_iload_n hV rfl rfl (pc' := 160) rfl ?_
      refine r_goto hV rfl (pc' := 164) (by decide) ?_
      exact rq_ret (q := mI263) rfl rfl rfl h
  · replace h := h.2 (Int.not_le.mp hc)
    refine r_aload_n hV rfl rfl (pc' := 76) rfl ?_
    refine tt_getR hV (tg := 6) (ci := 12) (kf := 30) rfl rfl (by decide) (hB _ _ rfl) rfl (by decide) (pc' := 79) rfl ?_
    refine tt_bipush hV rfl (by decide) (pc' := 81) rfl ?_
    refine r_iload_n hV rfl rfl (pc' := 82) rfl ?_
    refine tt_iadd hV rfl (pc' := 83) rfl ?_
    refine vtI (y := x + 12) (by clear h; omega) ?_
    obtain ⟨g11, h⟩ := h
    refine q_iald hV rfl (hB _ _ rfl) (Nat.le_of_ble_eq_true rfl) rfl g11 (pc' := 84) rfl ?_
    refine r_aload_n hV rfl rfl (pc' := 85) rfl ?_
    refine tt_getR hV (tg := 6) (ci := 12) (kf := 30) rfl rfl (by decide) (hB _ _ rfl) rfl (by decide) (pc' := 88) rfl ?_
    refine tt_bipush hV rfl (by decide) (pc' := 90) rfl ?_
    refine r_iload hV rfl rfl (pc' := 92) rfl ?_
    refine tt_iadd hV rfl (pc' := 93) rfl ?_
    refine vtI (y := l4 + 12) (by clear h; omega) ?_
    obtain ⟨g12, h⟩ := h
    refine q_iald hV rfl (hB _ _ rfl) (Nat.le_of_ble_eq_true rfl) rfl g12 (pc' := 94) rfl ?_
    refine tt_isub hV rfl (pc' := 95) rfl ?_
    refine vtI (y := m 101 (x + 12) - (m 101 (l4 + 12))) (by clear h; omega) ?_
    refine tt_istore5 hV rfl rfl (pc' := 97) rfl ?_
    refine r_aload_n hV rfl rfl (pc' := 98) rfl ?_
    refine r_iload hV rfl rfl (pc' := 100) rfl ?_
    obtain ⟨v100, m100, h, hr⟩ := h
    refine tt_cv1I hV rfl rfl rfl (Wd_obj (hB _ _ rfl)) (Nat.le_of_ble_eq_true rfl) (Nat.le_of_ble_eq_true rfl) rfl hr (pc' := 103) rfl ?_
    obtain ⟨g13, h⟩ := h
    refine tt_if_eq hV rfl g13 (pt := 143) (by decide) (pf := 106) rfl (fun hc => ?_) (fun hc => ?_)
    · replace h := h.1 hc
      refine tt_iinc4 hV rfl rfl (pc' := 146) rfl ?_
      refine r_goto hV rfl (pc' := 66) (by decide) ?_
      exact h
    · replace h := h.2 hc
      refine r_iload hV rfl rfl (pc' := 108) rfl ?_
      obtain ⟨g14, h⟩ := h
      refine tt_if_lt hV rfl g14 (pt := 143) (by decide) (pf := 111) rfl (fun hc => ?_) (fun hc => ?_)
      · replace h := h.1 hc
        refine tt_iinc4 hV rfl rfl (pc' := 146) rfl ?_
        refine r_goto hV rfl (pc' := 66) (by decide) ?_
        exact h
      · replace h := h.2 (Int.not_lt.mp hc)
        refine r_iload_n hV rfl rfl (pc' := 112) rfl ?_
        refine r_aload_n hV rfl rfl (pc' := 113) rfl ?_
        refine tt_getR hV (tg := 6) (ci := 12) (kf := 30) rfl rfl (by decide) (hB _ _ rfl) rfl (by decide) (pc' := 116) rfl ?_
        refine tt_bipush hV rfl (by decide) (pc' := 118) rfl ?_
        refine q_iald hV rfl (hB _ _ rfl) (Nat.le_of_ble_eq_true rfl) rfl (by decide) (pc' := 119) rfl ?_
        refine r_aload_n hV rfl rfl (pc' := 120) rfl ?_
        refine r_iload_n hV rfl rfl (pc' := 121) rfl ?_
        refine tt_iconst hV rfl (pc' := 122) rfl ?_
        obtain ⟨v122, m122, h, hr⟩ := h
        refine tt_cv2I hV rfl rfl rfl (Wd_obj (hB _ _ rfl)) (Nat.le_of_ble_eq_true rfl) (Nat.le_of_ble_eq_true rfl) rfl hr (pc' := 125) rfl ?_
        refine r_aload_n hV rfl rfl (pc' := 126) rfl ?_
        refine r_iload hV rfl rfl (pc' := 128) rfl ?_
        refine tt_iconst hV rfl (pc' := 129) rfl ?_
        obtain ⟨v129, m129, h, hr⟩ := h
        refine tt_cv2I hV rfl rfl rfl (Wd_obj (hB _ _ rfl)) (Nat.le_of_ble_eq_true rfl) (Nat.le_of_ble_eq_true rfl) rfl hr (pc' := 132) rfl ?_
        refine tt_isub hV rfl (pc' := 133) rfl ?_
        obtain ⟨g15, h⟩ := h
        obtain ⟨g16, h⟩ := h
        refine tt_max hV rfl rfl rfl g15 g16 (Nat.le_of_ble_eq_true rfl) (pc' := 136) rfl ?_
        refine r_iload hV rfl rfl (pc' := 138) rfl ?_
        refine tt_iadd hV rfl (pc' := 139) rfl ?_
        refine vtI (y := (max (m100 101 21) (v122 - v129)) + m 101 (x + 12) - (m 101 (l4 + 12))) (by clear h; omega) ?_
        obtain ⟨g17, h⟩ := h
        obtain ⟨g18, h⟩ := h
        refine tt_min hV rfl rfl rfl g17 g18 (Nat.le_of_ble_eq_true rfl) (pc' := 142) rfl ?_
        refine tt_istore3 hV rfl rfl (pc' := 143) rfl ?_
        refine tt_iinc4 hV rfl rfl (pc' := 146) rfl ?_
        refine r_goto hV rfl (pc' := 66) (by decide) ?_
        exact h
theorem M_isSmoothw {X : Cx} {d : Nat} {x : Int} {m : Mm} {Q : Int → Mm → Prop} (hB : Bsh X.2.2.1) (h : M_putAside X d m (fun m9 => M_layEnd X d (up m9 101 19 ((iO (m9 101 19) x))) (fun m24 => (-2147483648 ≤ (m24 83 40) ∧ (m24 83 40) < 2147483648) ∧ (-2147483648 ≤ (m 101 18) ∧ (m 101 18) < 2147483648) ∧ (m24 83 40 ≠ m 101 18 → Q 0 m24) ∧ (m24 83 40 = m 101 18 → Q 1 m24)))) : M_isSmooth X (d + 1) x m Q := by
  unfold M_isSmooth
  have hV : Clo (gP X.1 X.2.1) (d + 1) 264 3 false (Rq (gP X.1 X.2.1) (d + 1) 264 X.2.2.1 X.2.2.2 Q) := Rq_clo (q := mI264) rfl
  refine r_aload_n hV rfl rfl (pc' := 1) rfl ?_
  refine tt_getR hV (tg := 6) (ci := 12) (kf := 30) rfl rfl (by decide) (hB _ _ rfl) rfl (by decide) (pc' := 4) rfl ?_
  refine tt_bipush hV rfl (by decide) (pc' := 6) rfl ?_
  refine q_iald hV rfl (hB _ _ rfl) (Nat.le_of_ble_eq_true rfl) rfl (by decide) (pc' := 7) rfl ?_
  refine tt_istore2 hV rfl rfl (pc' := 8) rfl ?_
  refine r_aload_n hV rfl rfl (pc' := 9) rfl ?_
  obtain ⟨m9, h, hr⟩ := h
  refine tt_cv0U hV rfl rfl rfl (Wd_obj (hB _ _ rfl)) (Nat.le_of_ble_eq_true rfl) (Nat.le_of_ble_eq_true rfl) rfl hr (pc' := 12) rfl ?_
  refine r_aload_n hV rfl rfl (pc' := 13) rfl ?_
  refine tt_getR hV (tg := 6) (ci := 12) (kf := 30) rfl rfl (by decide) (hB _ _ rfl) rfl (by decide) (pc' := 16) rfl ?_
  refine tt_bipush hV rfl (by decide) (pc' := 18) rfl ?_
  refine r_dup2 hV rfl rfl rfl (pc' := 19) rfl ?_
  refine q_iald hV rfl (hB _ _ rfl) (Nat.le_of_ble_eq_true rfl) rfl (by decide) (pc' := 20) rfl ?_
  refine r_iload_n hV rfl rfl (pc' := 21) rfl ?_
  refine tt_ior hV rfl (pc' := 22) rfl ?_
  refine q_iast hV rfl (hB _ _ rfl) (Nat.le_of_ble_eq_true rfl) rfl (by decide) (pc' := 23) rfl ?_
  refine r_aload_n hV rfl rfl (pc' := 24) rfl ?_
  obtain ⟨m24, h, hr⟩ := h
  refine tt_cv0U hV rfl rfl rfl (Wd_obj (hB _ _ rfl)) (Nat.le_of_ble_eq_true rfl) (Nat.le_of_ble_eq_true rfl) rfl hr (pc' := 27) rfl ?_
  refine r_aload_n hV rfl rfl (pc' := 28) rfl ?_
  refine tt_getI hV (tg := 0) (ci := 12) (kf := 40) rfl rfl (by decide) (hB _ _ rfl) rfl (by decide) (pc' := 31) rfl ?_
  refine r_iload_n hV rfl rfl (pc' := 32) rfl ?_
  obtain ⟨g1, h⟩ := h
  obtain ⟨g2, h⟩ := h
  refine tt_icmp_ne hV rfl g1 g2 (pt := 39) (by decide) (pf := 35) rfl (fun hc => ?_) (fun hc => ?_)
  · replace h := h.1 hc
    refine tt_iconst hV rfl (pc' := 40) rfl ?_
    exact rq_ret (q := mI264) rfl rfl rfl h
  · replace h := h.2 (Decidable.not_not.mp hc)
    refine tt_iconst hV rfl (pc' := 36) rfl ?_
    refine r_goto hV rfl (pc' := 40) (by decide) ?_
    exact rq_ret (q := mI264) rfl rfl rfl h
theorem M_isStraww {X : Cx} {d : Nat} {x : Int} {m : Mm} {Q : Int → Mm → Prop} (hB : Bsh X.2.2.1) (h : ((iA x (m 101 19)) ≠ 0 → Q 0 m) ∧ ((iA x (m 101 19)) = 0 → M_isSmooth X d x m (fun v14 m14 => (-2147483648 ≤ v14 ∧ v14 < 2147483648) ∧ (v14 = 0 → Q 0 m14) ∧ (v14 ≠ 0 → Q 1 m14)))) : M_isStraw X (d + 1) x m Q := by
  unfold M_isStraw
  have hV : Clo (gP X.1 X.2.1) (d + 1) 265 2 false (Rq (gP X.1 X.2.1) (d + 1) 265 X.2.2.1 X.2.2.2 Q) := Rq_clo (q := mI265) rfl
  refine r_iload_n hV rfl rfl (pc' := 1) rfl ?_
  refine r_aload_n hV rfl rfl (pc' := 2) rfl ?_
  refine tt_getR hV (tg := 6) (ci := 12) (kf := 30) rfl rfl (by decide) (hB _ _ rfl) rfl (by decide) (pc' := 5) rfl ?_
  refine tt_bipush hV rfl (by decide) (pc' := 7) rfl ?_
  refine q_iald hV rfl (hB _ _ rfl) (Nat.le_of_ble_eq_true rfl) rfl (by decide) (pc' := 8) rfl ?_
  refine tt_iand hV rfl (pc' := 9) rfl ?_
  refine tt_if_ne hV rfl (i32R _) (pt := 24) (by decide) (pf := 12) rfl (fun hc => ?_) (fun hc => ?_)
  · replace h := h.1 hc
    refine tt_iconst hV rfl (pc' := 25) rfl ?_
    exact rq_ret (q := mI265) rfl rfl rfl h
  · replace h := h.2 (Decidable.not_not.mp hc)
    refine r_aload_n hV rfl rfl (pc' := 13) rfl ?_
    refine r_iload_n hV rfl rfl (pc' := 14) rfl ?_
    obtain ⟨v14, m14, h, hr⟩ := h
    refine tt_cv1I hV rfl rfl rfl (Wd_obj (hB _ _ rfl)) (Nat.le_of_ble_eq_true rfl) (Nat.le_of_ble_eq_true rfl) rfl hr (pc' := 17) rfl ?_
    obtain ⟨g1, h⟩ := h
    refine tt_if_eq hV rfl g1 (pt := 24) (by decide) (pf := 20) rfl (fun hc => ?_) (fun hc => ?_)
    · replace h := h.1 hc
      refine tt_iconst hV rfl (pc' := 25) rfl ?_
      exact rq_ret (q := mI265) rfl rfl rfl h
    · replace h := h.2 hc
      refine tt_iconst hV rfl (pc' := 21) rfl ?_
      refine r_goto hV rfl (pc' := 25) (by decide) ?_
      exact rq_ret (q := mI265) rfl rfl rfl h
theorem M_straww {X : Cx} {d : Nat} {x : Int} {y : Int} {m : Mm} {Q : Int → Mm → Prop} (hB : Bsh X.2.2.1) (h : (-2147483648 ≤ (m 83 28) ∧ (m 83 28) < 2147483648) ∧ (m 83 28 = 0 → Q (-1) m) ∧ (m 83 28 ≠ 0 → M_in X d x 0 3 m (fun v10 m10 => (-2147483648 ≤ v10 ∧ v10 < 2147483648) ∧ (v10 = 0 → Q (-1) m10) ∧ (v10 ≠ 0 → (-2147483648 ≤ y ∧ y < 2147483648) ∧ (-1 ≤ y → M_straw_28 X (d + 1) x y 0 0 m10 Q) ∧ (y < -1 → Q (-1) m10))))) : M_straw X (d + 1) x y m Q := by
  unfold M_straw
  have hV : Clo (gP X.1 X.2.1) (d + 1) 266 5 false (Rq (gP X.1 X.2.1) (d + 1) 266 X.2.2.1 X.2.2.2 Q) := Rq_clo (q := mI266) rfl
  refine r_aload_n hV rfl rfl (pc' := 1) rfl ?_
  refine tt_getI hV (tg := 0) (ci := 12) (kf := 28) rfl rfl (by decide) (hB _ _ rfl) rfl (by decide) (pc' := 4) rfl ?_
  obtain ⟨g1, h⟩ := h
  refine tt_if_eq hV rfl g1 (pt := 21) (by decide) (pf := 7) rfl (fun hc => ?_) (fun hc => ?_)
  · replace h := h.1 hc
    refine tt_iconst hV rfl (pc' := 22) rfl ?_
    exact rq_ret (q := mI266) rfl rfl rfl h
  · replace h := h.2 hc
    refine r_iload_n hV rfl rfl (pc' := 8) rfl ?_
    refine tt_iconst hV rfl (pc' := 9) rfl ?_
    refine tt_iconst hV rfl (pc' := 10) rfl ?_
    obtain ⟨v10, m10, h, hr⟩ := h
    refine tt_cs3I hV rfl rfl rfl (Nat.le_of_ble_eq_true rfl) (Nat.le_of_ble_eq_true rfl) rfl hr (pc' := 13) rfl ?_
    obtain ⟨g2, h⟩ := h
    refine tt_if_eq hV rfl g2 (pt := 21) (by decide) (pf := 16) rfl (fun hc => ?_) (fun hc => ?_)
    · replace h := h.1 hc
      refine tt_iconst hV rfl (pc' := 22) rfl ?_
      exact rq_ret (q := mI266) rfl rfl rfl h
    · replace h := h.2 hc
      refine r_iload_n hV rfl rfl (pc' := 17) rfl ?_
      refine tt_iconst hV rfl (pc' := 18) rfl ?_
      obtain ⟨g3, h⟩ := h
      refine tt_icmp_ge hV rfl g3 (by decide) (pt := 23) (by decide) (pf := 21) rfl (fun hc => ?_) (fun hc => ?_)
      · replace h := h.1 hc
        refine tt_iconst hV rfl (pc' := 24) rfl ?_
        refine tt_istore3 hV rfl rfl (pc' := 25) rfl ?_
        refine tt_iconst hV rfl (pc' := 26) rfl ?_
        refine tt_istore4 hV rfl rfl (pc' := 28) rfl ?_
        exact h
      · replace h := h.2 (Int.not_le.mp hc)
        refine tt_iconst hV rfl (pc' := 22) rfl ?_
        exact rq_ret (q := mI266) rfl rfl rfl h
theorem M_straw_28w {X : Cx} {d : Nat} {x : Int} {y : Int} {l3 : Int} {l4 : Int} {m : Mm} {Q : Int → Mm → Prop} (hB : Bsh X.2.2.1) (h : (-2147483648 ≤ l4 ∧ l4 < 2147483648) ∧ ((iSl 1 (m 83 27)) ≤ l4 → (-2147483648 ≤ y ∧ y < 2147483648) ∧ (y ≠ -1 → Q (-1) m) ∧ (y = -1 → Q l3 m)) ∧ (l4 < (iSl 1 (m 83 27)) → J_bitCount X d l4 m (fun v41 m41 => (-2147483648 ≤ v41 ∧ v41 < 2147483648) ∧ (-2147483648 ≤ x ∧ x < 2147483648) ∧ (v41 ≠ x → M_straw_28 X (d + 1) x y l3 (l4 + 1) m41 Q) ∧ (v41 = x → M_isStraw X d l4 m41 (fun v51 m51 => (-2147483648 ≤ v51 ∧ v51 < 2147483648) ∧ (v51 = 0 → M_straw_28 X (d + 1) x y l3 (l4 + 1) m51 Q) ∧ (v51 ≠ 0 → (-2147483648 ≤ l3 ∧ l3 < 2147483648) ∧ (-2147483648 ≤ y ∧ y < 2147483648) ∧ (l3 ≠ y → M_straw_28 X (d + 1) x y (l3 + 1) (l4 + 1) m51 Q) ∧ (l3 = y → Q l4 m51))))))) : M_straw_28 X (d + 1) x y l3 l4 m Q := by
  unfold M_straw_28
  have hV : Clo (gP X.1 X.2.1) (d + 1) 266 5 false (Rq (gP X.1 X.2.1) (d + 1) 266 X.2.2.1 X.2.2.2 Q) := Rq_clo (q := mI266) rfl
  refine r_iload hV rfl rfl (pc' := 30) rfl ?_
  refine tt_iconst hV rfl (pc' := 31) rfl ?_
  refine r_aload_n hV rfl rfl (pc' := 32) rfl ?_
  refine tt_getI hV (tg := 0) (ci := 12) (kf := 27) rfl rfl (by decide) (hB _ _ rfl) rfl (by decide) (pc' := 35) rfl ?_
  refine tt_ishl hV rfl (pc' := 36) rfl ?_
  obtain ⟨g4, h⟩ := h
  refine tt_icmp_ge hV rfl g4 (i32R _) (pt := 74) (by decide) (pf := 39) rfl (fun hc => ?_) (fun hc => ?_)
  · replace h := h.1 hc
    refine r_iload_n hV rfl rfl (pc' := 75) rfl ?_
    refine tt_iconst hV rfl (pc' := 76) rfl ?_
    obtain ⟨g5, h⟩ := h
    refine tt_icmp_ne hV rfl g5 (by decide) (pt := 83) (by decide) (pf := 79) rfl (fun hc => ?_) (fun hc => ?_)
    · replace h := h.1 hc
      refine tt_iconst hV rfl (pc' := 84) rfl ?_
      exact rq_ret (q := mI266) rfl rfl rfl h
    · replace h := h.2 (Decidable.not_not.mp hc)
      refine r_iload_n hV rfl rfl (pc' := 80) rfl ?_
      refine r_goto hV rfl (pc' := 84) (by decide) ?_
      exact rq_ret (q := mI266) rfl rfl rfl h
  · replace h := h.2 (Int.not_le.mp hc)
    refine r_iload hV rfl rfl (pc' := 41) rfl ?_
    obtain ⟨v41, m41, h, hr⟩ := h
    refine tt_cs1I hV rfl rfl rfl (Nat.le_of_ble_eq_true rfl) (Nat.le_of_ble_eq_true rfl) rfl hr (pc' := 44) rfl ?_
    refine r_iload_n hV rfl rfl (pc' := 45) rfl ?_
    obtain ⟨g6, h⟩ := h
    obtain ⟨g7, h⟩ := h
    refine tt_icmp_ne hV rfl g6 g7 (pt := 68) (by decide) (pf := 48) rfl (fun hc => ?_) (fun hc => ?_)
    · replace h := h.1 hc
      refine tt_iinc4 hV rfl rfl (pc' := 71) rfl ?_
      refine r_goto hV rfl (pc' := 28) (by decide) ?_
      exact h
    · replace h := h.2 (Decidable.not_not.mp hc)
      refine r_aload_n hV rfl rfl (pc' := 49) rfl ?_
      refine r_iload hV rfl rfl (pc' := 51) rfl ?_
      obtain ⟨v51, m51, h, hr⟩ := h
      refine tt_cv1I hV rfl rfl rfl (Wd_obj (hB _ _ rfl)) (Nat.le_of_ble_eq_true rfl) (Nat.le_of_ble_eq_true rfl) rfl hr (pc' := 54) rfl ?_
      obtain ⟨g8, h⟩ := h
      refine tt_if_eq hV rfl g8 (pt := 68) (by decide) (pf := 57) rfl (fun hc => ?_) (fun hc => ?_)
      · replace h := h.1 hc
        refine tt_iinc4 hV rfl rfl (pc' := 71) rfl ?_
        refine r_goto hV rfl (pc' := 28) (by decide) ?_
        exact h
      · replace h := h.2 hc
        refine r_iload_n hV rfl rfl (pc' := 58) rfl ?_
        refine r_iload_n hV rfl rfl (pc' := 59) rfl ?_
        obtain ⟨g9, h⟩ := h
        obtain ⟨g10, h⟩ := h
        refine tt_icmp_ne hV rfl g9 g10 (pt := 65) (by decide) (pf := 62) rfl (fun hc => ?_) (fun hc => ?_)
        · replace h := h.1 hc
          refine tt_iinc3 hV rfl rfl (pc' := 68) rfl ?_
          refine tt_iinc4 hV rfl rfl (pc' := 71) rfl ?_
          refine r_goto hV rfl (pc' := 28) (by decide) ?_
          exact h
        · replace h := h.2 (Decidable.not_not.mp hc)
          refine r_iload hV rfl rfl (pc' := 64) rfl ?_
          exact rq_ret (q := mI266) rfl rfl rfl h
theorem M_fewestw {X : Cx} {d : Nat} {m : Mm} {Q : Int → Mm → Prop} (hB : Bsh X.2.2.1) (h : (-2147483648 ≤ (m 83 28) ∧ (m 83 28) < 2147483648) ∧ (m 83 28 ≠ 0 → M_fewest_13 X (d + 1) (-1) 0 none m Q) ∧ (m 83 28 = 0 → Q (-1) m)) : M_fewest X (d + 1) m Q := by
  unfold M_fewest
  have hV : Clo (gP X.1 X.2.1) (d + 1) 267 4 false (Rq (gP X.1 X.2.1) (d + 1) 267 X.2.2.1 X.2.2.2 Q) := Rq_clo (q := mI267) rfl
  refine r_aload_n hV rfl rfl (pc' := 1) rfl ?_
  refine tt_getI hV (tg := 0) (ci := 12) (kf := 28) rfl rfl (by decide) (hB _ _ rfl) rfl (by decide) (pc' := 4) rfl ?_
  obtain ⟨g1, h⟩ := h
  refine tt_if_ne hV rfl g1 (pt := 9) (by decide) (pf := 7) rfl (fun hc => ?_) (fun hc => ?_)
  · replace h := h.1 hc
    refine tt_iconst hV rfl (pc' := 10) rfl ?_
    refine tt_istore1 hV rfl rfl (pc' := 11) rfl ?_
    refine tt_iconst hV rfl (pc' := 12) rfl ?_
    refine tt_istore2 hV rfl rfl (pc' := 13) rfl ?_
    exact h
  · replace h := h.2 (Decidable.not_not.mp hc)
    refine tt_iconst hV rfl (pc' := 8) rfl ?_
    exact rq_ret (q := mI267) rfl rfl rfl h
theorem M_fewest_13w {X : Cx} {d : Nat} {l1 : Int} {l2 : Int} {o3 : Option Int} {m : Mm} {Q : Int → Mm → Prop} (hB : Bsh X.2.2.1) (h : (-2147483648 ≤ l2 ∧ l2 < 2147483648) ∧ ((iSl 1 (m 83 27)) ≤ l2 → Q l1 m) ∧ (l2 < (iSl 1 (m 83 27)) → (-2147483648 ≤ l1 ∧ l1 < 2147483648) ∧ (l1 = -1 → M_fewest_39 X (d + 1) l1 l2 o3 m Q) ∧ (l1 ≠ -1 → J_bitCount X d l2 m (fun v29 m29 => J_bitCount X d l1 m29 (fun v33 m33 => (-2147483648 ≤ v29 ∧ v29 < 2147483648) ∧ (-2147483648 ≤ v33 ∧ v33 < 2147483648) ∧ (v33 ≤ v29 → M_fewest_13 X (d + 1) l1 (l2 + 1) (some 0) m33 Q) ∧ (v29 < v33 → M_fewest_39 X (d + 1) l1 l2 o3 m33 Q)))))) : M_fewest_13 X (d + 1) l1 l2 o3 m Q := by
  unfold M_fewest_13
  have hV : Clo (gP X.1 X.2.1) (d + 1) 267 4 false (Rq (gP X.1 X.2.1) (d + 1) 267 X.2.2.1 X.2.2.2 Q) := Rq_clo (q := mI267) rfl
  refine r_iload_n hV rfl rfl (pc' := 14) rfl ?_
  refine tt_iconst hV rfl (pc' := 15) rfl ?_
  refine r_aload_n hV rfl rfl (pc' := 16) rfl ?_
  refine tt_getI hV (tg := 0) (ci := 12) (kf := 27) rfl rfl (by decide) (hB _ _ rfl) rfl (by decide) (pc' := 19) rfl ?_
  refine tt_ishl hV rfl (pc' := 20) rfl ?_
  obtain ⟨g2, h⟩ := h
  refine tt_icmp_ge hV rfl g2 (i32R _) (pt := 69) (by decide) (pf := 23) rfl (fun hc => ?_) (fun hc => ?_)
  · replace h := h.1 hc
    refine r_iload_n hV rfl rfl (pc' := 70) rfl ?_
    exact rq_ret (q := mI267) rfl rfl rfl h
  · replace h := h.2 (Int.not_le.mp hc)
    refine r_iload_n hV rfl rfl (pc' := 24) rfl ?_
    refine tt_iconst hV rfl (pc' := 25) rfl ?_
    obtain ⟨g3, h⟩ := h
    refine tt_icmp_eq hV rfl g3 (by decide) (pt := 39) (by decide) (pf := 28) rfl (fun hc => ?_) (fun hc => ?_)
    · replace h := h.1 hc
      exact h
    · replace h := h.2 hc
      refine r_iload_n hV rfl rfl (pc' := 29) rfl ?_
      obtain ⟨v29, m29, h, hr⟩ := h
      refine tt_cs1I hV rfl rfl rfl (Nat.le_of_ble_eq_true rfl) (Nat.le_of_ble_eq_true rfl) rfl hr (pc' := 32) rfl ?_
      refine r_iload_n hV rfl rfl (pc' := 33) rfl ?_
      obtain ⟨v33, m33, h, hr⟩ := h
      refine tt_cs1I hV rfl rfl rfl (Nat.le_of_ble_eq_true rfl) (Nat.le_of_ble_eq_true rfl) rfl hr (pc' := 36) rfl ?_
      obtain ⟨g4, h⟩ := h
      obtain ⟨g5, h⟩ := h
      refine tt_icmp_ge hV rfl g4 g5 (pt := 43) (by decide) (pf := 39) rfl (fun hc => ?_) (fun hc => ?_)
      · replace h := h.1 hc
        refine tt_iconst hV rfl (pc' := 44) rfl ?_
        refine tt_istore3 hV rfl rfl (pc' := 45) rfl ?_
        refine r_iload_n hV rfl rfl (pc' := 46) rfl ?_
        refine tt_if_eq hV rfl (by decide) (pt := 61) (by decide) (pf := 49) rfl (fun hc => ?_) (fun hc => absurd (by decide) hc)
        clear hc
        refine r_iload_n hV rfl rfl (pc' := 62) rfl ?_
        refine tt_istore1 hV rfl rfl (pc' := 63) rfl ?_
        refine tt_iinc2 hV rfl rfl (pc' := 66) rfl ?_
        refine r_goto hV rfl (pc' := 13) (by decide) ?_
        exact h
      · replace h := h.2 (Int.not_le.mp hc)
        exact h
theorem M_fewest_39w {X : Cx} {d : Nat} {l1 : Int} {l2 : Int} {o3 : Option Int} {m : Mm} {Q : Int → Mm → Prop} (hB : Bsh X.2.2.1) (h : M_isStraw X d l2 m (fun v51 m51 => (-2147483648 ≤ v51 ∧ v51 < 2147483648) ∧ (v51 = 0 → M_fewest_13 X (d + 1) l1 (l2 + 1) (some 1) m51 Q) ∧ (v51 ≠ 0 → M_fewest_13 X (d + 1) l2 (l2 + 1) (some 1) m51 Q))) : M_fewest_39 X (d + 1) l1 l2 o3 m Q := by
  unfold M_fewest_39
  have hV : Clo (gP X.1 X.2.1) (d + 1) 267 4 false (Rq (gP X.1 X.2.1) (d + 1) 267 X.2.2.1 X.2.2.2 Q) := Rq_clo (q := mI267) rfl
  refine tt_iconst hV rfl (pc' := 40) rfl ?_
  refine r_goto hV rfl (pc' := 44) (by decide) ?_
  refine tt_istore3 hV rfl rfl (pc' := 45) rfl ?_
  refine r_iload_n hV rfl rfl (pc' := 46) rfl ?_
  refine tt_if_eq hV rfl (by decide) (pt := 61) (by decide) (pf := 49) rfl (fun hc => absurd hc (by decide)) (fun hc => ?_)
  clear hc
  refine r_aload_n hV rfl rfl (pc' := 50) rfl ?_
  refine r_iload_n hV rfl rfl (pc' := 51) rfl ?_
  obtain ⟨v51, m51, h, hr⟩ := h
  refine tt_cv1I hV rfl rfl rfl (Wd_obj (hB _ _ rfl)) (Nat.le_of_ble_eq_true rfl) (Nat.le_of_ble_eq_true rfl) rfl hr (pc' := 54) rfl ?_
  obtain ⟨g6, h⟩ := h
  refine tt_if_eq hV rfl g6 (pt := 61) (by decide) (pf := 57) rfl (fun hc => ?_) (fun hc => ?_)
  · replace h := h.1 hc
    refine r_iload_n hV rfl rfl (pc' := 62) rfl ?_
    refine tt_istore1 hV rfl rfl (pc' := 63) rfl ?_
    refine tt_iinc2 hV rfl rfl (pc' := 66) rfl ?_
    refine r_goto hV rfl (pc' := 13) (by decide) ?_
    exact h
  · replace h := h.2 hc
    refine r_iload_n hV rfl rfl (pc' := 58) rfl ?_
    refine r_goto hV rfl (pc' := 62) (by decide) ?_
    refine tt_istore1 hV rfl rfl (pc' := 63) rfl ?_
    refine tt_iinc2 hV rfl rfl (pc' := 66) rfl ?_
    refine r_goto hV rfl (pc' := 13) (by decide) ?_
    exact h
theorem M_seenw {X : Cx} {d : Nat} {x : Int} {y : Int} {z : Int} {m : Mm} {Q : Int → Mm → Prop} (hB : Bsh X.2.2.1) (h : (-2147483648 ≤ (m 83 28) ∧ (m 83 28) < 2147483648) ∧ (m 83 28 = 0 → Q (-1) m) ∧ (m 83 28 ≠ 0 → M_in X d x 1 20 m (fun v11 m11 => (-2147483648 ≤ v11 ∧ v11 < 2147483648) ∧ (v11 = 0 → Q (-1) m11) ∧ (v11 ≠ 0 → M_in X d y 0 (m11 98 0 - 1) m11 (fun v27 m27 => (-2147483648 ≤ v27 ∧ v27 < 2147483648) ∧ (v27 = 0 → Q (-1) m27) ∧ (v27 ≠ 0 → (-2147483648 ≤ (m27 83 48) ∧ (m27 83 48) < 2147483648) ∧ (m27 83 48 ≠ 10 → (0 ≤ m27 83 48 ∧ m27 83 48 < 10) ∧ (z = 0 ∨ z = 1) ∧ Q (m27 83 48 + 1) (up (up (up (up m27 107 (m27 83 48) x) 108 (m27 83 48) y) 109 (m27 83 48) z) 83 48 (m27 83 48 + 1))) ∧ (m27 83 48 = 10 → Q (-1) m27))))))) : M_seen X (d + 1) x y z m Q := by
  unfold M_seen
  have hV : Clo (gP X.1 X.2.1) (d + 1) 268 4 false (Rq (gP X.1 X.2.1) (d + 1) 268 X.2.2.1 X.2.2.2 Q) := Rq_clo (q := mI268) rfl
  refine r_aload_n hV rfl rfl (pc' := 1) rfl ?_
  refine tt_getI hV (tg := 0) (ci := 12) (kf := 28) rfl rfl (by decide) (hB _ _ rfl) rfl (by decide) (pc' := 4) rfl ?_
  obtain ⟨g1, h⟩ := h
  refine tt_if_eq hV rfl g1 (pt := 42) (by decide) (pf := 7) rfl (fun hc => ?_) (fun hc => ?_)
  · replace h := h.1 hc
    refine tt_iconst hV rfl (pc' := 43) rfl ?_
    exact rq_ret (q := mI268) rfl rfl rfl h
  · replace h := h.2 hc
    refine r_iload_n hV rfl rfl (pc' := 8) rfl ?_
    refine tt_iconst hV rfl (pc' := 9) rfl ?_
    refine tt_bipush hV rfl (by decide) (pc' := 11) rfl ?_
    obtain ⟨v11, m11, h, hr⟩ := h
    refine tt_cs3I hV rfl rfl rfl (Nat.le_of_ble_eq_true rfl) (Nat.le_of_ble_eq_true rfl) rfl hr (pc' := 14) rfl ?_
    obtain ⟨g2, h⟩ := h
    refine tt_if_eq hV rfl g2 (pt := 42) (by decide) (pf := 17) rfl (fun hc => ?_) (fun hc => ?_)
    · replace h := h.1 hc
      refine tt_iconst hV rfl (pc' := 43) rfl ?_
      exact rq_ret (q := mI268) rfl rfl rfl h
    · replace h := h.2 hc
      refine r_iload_n hV rfl rfl (pc' := 18) rfl ?_
      refine tt_iconst hV rfl (pc' := 19) rfl ?_
      refine r_aload_n hV rfl rfl (pc' := 20) rfl ?_
      refine tt_getR hV (tg := 6) (ci := 12) (kf := 24) rfl rfl (by decide) (hB _ _ rfl) rfl (by decide) (pc' := 23) rfl ?_
      refine tt_iconst hV rfl (pc' := 24) rfl ?_
      refine q_iald hV rfl (hB _ _ rfl) (Nat.le_of_ble_eq_true rfl) rfl (by decide) (pc' := 25) rfl ?_
      refine tt_iconst hV rfl (pc' := 26) rfl ?_
      refine tt_isub hV rfl (pc' := 27) rfl ?_
      obtain ⟨v27, m27, h, hr⟩ := h
      refine tt_cs3I hV rfl rfl rfl (Nat.le_of_ble_eq_true rfl) (Nat.le_of_ble_eq_true rfl) rfl hr (pc' := 30) rfl ?_
      obtain ⟨g3, h⟩ := h
      refine tt_if_eq hV rfl g3 (pt := 42) (by decide) (pf := 33) rfl (fun hc => ?_) (fun hc => ?_)
      · replace h := h.1 hc
        refine tt_iconst hV rfl (pc' := 43) rfl ?_
        exact rq_ret (q := mI268) rfl rfl rfl h
      · replace h := h.2 hc
        refine r_aload_n hV rfl rfl (pc' := 34) rfl ?_
        refine tt_getI hV (tg := 0) (ci := 12) (kf := 48) rfl rfl (by decide) (hB _ _ rfl) rfl (by decide) (pc' := 37) rfl ?_
        refine tt_bipush hV rfl (by decide) (pc' := 39) rfl ?_
        obtain ⟨g4, h⟩ := h
        refine tt_icmp_ne hV rfl g4 (by decide) (pt := 44) (by decide) (pf := 42) rfl (fun hc => ?_) (fun hc => ?_)
        · replace h := h.1 hc
          refine r_aload_n hV rfl rfl (pc' := 45) rfl ?_
          refine tt_getR hV (tg := 6) (ci := 12) (kf := 45) rfl rfl (by decide) (hB _ _ rfl) rfl (by decide) (pc' := 48) rfl ?_
          refine r_aload_n hV rfl rfl (pc' := 49) rfl ?_
          refine tt_getI hV (tg := 0) (ci := 12) (kf := 48) rfl rfl (by decide) (hB _ _ rfl) rfl (by decide) (pc' := 52) rfl ?_
          refine r_iload_n hV rfl rfl (pc' := 53) rfl ?_
          obtain ⟨g5, h⟩ := h
          refine q_iast hV rfl (hB _ _ rfl) (Nat.le_of_ble_eq_true rfl) rfl g5 (pc' := 54) rfl ?_
          refine r_aload_n hV rfl rfl (pc' := 55) rfl ?_
          refine tt_getR hV (tg := 6) (ci := 12) (kf := 46) rfl rfl (by decide) (hB _ _ rfl) rfl (by decide) (pc' := 58) rfl ?_
          refine r_aload_n hV rfl rfl (pc' := 59) rfl ?_
          refine tt_getI hV (tg := 0) (ci := 12) (kf := 48) rfl rfl (by decide) (hB _ _ rfl) rfl (by decide) (pc' := 62) rfl ?_
          refine vtI (y := m27 83 48) (up_ne (Or.inl (by decide))) ?_
          refine r_iload_n hV rfl rfl (pc' := 63) rfl ?_
          refine q_iast hV rfl (hB _ _ rfl) (Nat.le_of_ble_eq_true rfl) rfl g5 (pc' := 64) rfl ?_
          refine r_aload_n hV rfl rfl (pc' := 65) rfl ?_
          refine tt_getR hV (tg := 6) (ci := 12) (kf := 47) rfl rfl (by decide) (hB _ _ rfl) rfl (by decide) (pc' := 68) rfl ?_
          refine r_aload_n hV rfl rfl (pc' := 69) rfl ?_
          refine tt_getI hV (tg := 0) (ci := 12) (kf := 48) rfl rfl (by decide) (hB _ _ rfl) rfl (by decide) (pc' := 72) rfl ?_
          refine vtI (y := m27 83 48) ((up_ne (Or.inl (by decide))).trans (up_ne (Or.inl (by decide)))) ?_
          refine r_iload_n hV rfl rfl (pc' := 73) rfl ?_
          obtain ⟨g6, h⟩ := h
          refine q_zast hV rfl (hB _ _ rfl) (Nat.le_of_ble_eq_true rfl) rfl g5 g6 (pc' := 74) rfl ?_
          refine r_aload_n hV rfl rfl (pc' := 75) rfl ?_
          refine r_dup hV rfl rfl (pc' := 76) rfl ?_
          refine tt_getI hV (tg := 0) (ci := 12) (kf := 48) rfl rfl (by decide) (hB _ _ rfl) rfl (by decide) (pc' := 79) rfl ?_
          refine vtI (y := m27 83 48) ((up_ne (Or.inl (by decide))).trans ((up_ne (Or.inl (by decide))).trans (up_ne (Or.inl (by decide))))) ?_
          refine tt_iconst hV rfl (pc' := 80) rfl ?_
          refine tt_iadd hV rfl (pc' := 81) rfl ?_
          refine tt_putI hV (tg := 0) (ci := 12) (kf := 48) rfl rfl (Or.inl rfl) (hB _ _ rfl) rfl (by decide) rfl (pc' := 84) rfl ?_
          refine r_aload_n hV rfl rfl (pc' := 85) rfl ?_
          refine tt_getI hV (tg := 0) (ci := 12) (kf := 48) rfl rfl (by decide) (hB _ _ rfl) rfl (by decide) (pc' := 88) rfl ?_
          refine vtI (y := m27 83 48 + 1) (up_same _ _ _ _) ?_
          exact rq_ret (q := mI268) rfl rfl rfl h
        · replace h := h.2 (Decidable.not_not.mp hc)
          refine tt_iconst hV rfl (pc' := 43) rfl ?_
          exact rq_ret (q := mI268) rfl rfl rfl h
theorem M_isWhow {X : Cx} {d : Nat} {x : Int} {m : Mm} {Q : Int → Mm → Prop} (hB : Bsh X.2.2.1) (h : (-2147483648 ≤ x ∧ x < 2147483648) ∧ (x = 9 → Q 1 m) ∧ (x ≠ 9 → M_isMember X d x m (fun v8 m8 => (-2147483648 ≤ v8 ∧ v8 < 2147483648) ∧ (v8 = 0 → Q 0 m8) ∧ (v8 ≠ 0 → Q 1 m8)))) : M_isWho X (d + 1) x m Q := by
  unfold M_isWho
  have hV : Clo (gP X.1 X.2.1) (d + 1) 269 2 false (Rq (gP X.1 X.2.1) (d + 1) 269 X.2.2.1 X.2.2.2 Q) := Rq_clo (q := mI269) rfl
  refine r_iload_n hV rfl rfl (pc' := 1) rfl ?_
  refine tt_bipush hV rfl (by decide) (pc' := 3) rfl ?_
  obtain ⟨g1, h⟩ := h
  refine tt_icmp_eq hV rfl g1 (by decide) (pt := 14) (by decide) (pf := 6) rfl (fun hc => ?_) (fun hc => ?_)
  · replace h := h.1 hc
    refine tt_iconst hV rfl (pc' := 15) rfl ?_
    refine r_goto hV rfl (pc' := 19) (by decide) ?_
    exact rq_ret (q := mI269) rfl rfl rfl h
  · replace h := h.2 hc
    refine r_aload_n hV rfl rfl (pc' := 7) rfl ?_
    refine r_iload_n hV rfl rfl (pc' := 8) rfl ?_
    obtain ⟨v8, m8, h, hr⟩ := h
    refine tt_cv1I hV rfl rfl rfl (Wd_obj (hB _ _ rfl)) (Nat.le_of_ble_eq_true rfl) (Nat.le_of_ble_eq_true rfl) rfl hr (pc' := 11) rfl ?_
    obtain ⟨g2, h⟩ := h
    refine tt_if_eq hV rfl g2 (pt := 18) (by decide) (pf := 14) rfl (fun hc => ?_) (fun hc => ?_)
    · replace h := h.1 hc
      refine tt_iconst hV rfl (pc' := 19) rfl ?_
      exact rq_ret (q := mI269) rfl rfl rfl h
    · replace h := h.2 hc
      refine tt_iconst hV rfl (pc' := 15) rfl ?_
      refine r_goto hV rfl (pc' := 19) (by decide) ?_
      exact rq_ret (q := mI269) rfl rfl rfl h
theorem M_layTracksw {X : Cx} {d : Nat} {x : Int} {m : Mm} {Q : Mm → Prop} (hB : Bsh X.2.2.1) (h : M_putAside X d m (fun m1 => M_layTracks_6 X (d + 1) x 0 none none m1 Q)) : M_layTracks X (d + 1) x m Q := by
  unfold M_layTracks
  have hV : Clo (gP X.1 X.2.1) (d + 1) 270 5 false (Ru0 (gP X.1 X.2.1) (d + 1) 270 X.2.2.1 X.2.2.2 Q) := Ru0_clo (q := mI270) rfl
  refine r_aload_n hV rfl rfl (pc' := 1) rfl ?_
  obtain ⟨m1, h, hr⟩ := h
  refine tt_cv0U hV rfl rfl rfl (Wd_obj (hB _ _ rfl)) (Nat.le_of_ble_eq_true rfl) (Nat.le_of_ble_eq_true rfl) rfl hr (pc' := 4) rfl ?_
  refine tt_iconst hV rfl (pc' := 5) rfl ?_
  refine tt_istore2 hV rfl rfl (pc' := 6) rfl ?_
  exact h
theorem M_layTracks_6w {X : Cx} {d : Nat} {x : Int} {l2 : Int} {o3 : Option Int} {o4 : Option Int} {m : Mm} {Q : Mm → Prop} (hB : Bsh X.2.2.1) (h : (-2147483648 ≤ l2 ∧ l2 < 2147483648) ∧ (9 < l2 → M_takeBack X d m (fun m136 => Q m136)) ∧ (l2 ≤ 9 → M_isWho X d l2 m (fun v14 m14 => (-2147483648 ≤ v14 ∧ v14 < 2147483648) ∧ (v14 = 0 → M_layTracks_6 X (d + 1) x (l2 + 1) o3 o4 m14 Q) ∧ (v14 ≠ 0 → (l2 ≠ 9 → M_of X d l2 0 m14 (fun v33 m33 => (l2 = 9 → M_begin X d m33 (fun m62 => M_layTracks_68 X (d + 1) x l2 v33 1 m62 Q)) ∧ (l2 ≠ 9 → (-2147483648 ≤ (v33 + x) ∧ (v33 + x) < 2147483648) ∧ (0 ≤ 4 * l2 ∧ 4 * l2 < 24) ∧ M_begin X d (up m33 100 (4 * l2) ((min 9 (v33 + x)))) (fun m62 => M_layTracks_68 X (d + 1) x l2 v33 1 m62 Q)))) ∧ (l2 = 9 → (l2 = 9 → M_begin X d m14 (fun m62 => M_layTracks_68 X (d + 1) x l2 0 1 m62 Q)) ∧ (l2 ≠ 9 → (-2147483648 ≤ x ∧ x < 2147483648) ∧ (0 ≤ 4 * l2 ∧ 4 * l2 < 24) ∧ M_begin X d (up m14 100 (4 * l2) ((min 9 x))) (fun m62 => M_layTracks_68 X (d + 1) x l2 0 1 m62 Q))))))) : M_layTracks_6 X (d + 1) x l2 o3 o4 m Q := by
  unfold M_layTracks_6
  have hV : Clo (gP X.1 X.2.1) (d + 1) 270 5 false (Ru0 (gP X.1 X.2.1) (d + 1) 270 X.2.2.1 X.2.2.2 Q) := Ru0_clo (q := mI270) rfl
  refine r_iload_n hV rfl rfl (pc' := 7) rfl ?_
  refine tt_bipush hV rfl (by decide) (pc' := 9) rfl ?_
  obtain ⟨g1, h⟩ := h
  refine tt_icmp_gt hV rfl g1 (by decide) (pt := 135) (by decide) (pf := 12) rfl (fun hc => ?_) (fun hc => ?_)
  · replace h := h.1 hc
    refine r_aload_n hV rfl rfl (pc' := 136) rfl ?_
    obtain ⟨m136, h, hr⟩ := h
    refine tt_cv0U hV rfl rfl rfl (Wd_obj (hB _ _ rfl)) (Nat.le_of_ble_eq_true rfl) (Nat.le_of_ble_eq_true rfl) rfl hr (pc' := 139) rfl ?_
    exact ru0_ret (q := mI270) rfl rfl rfl h
  · replace h := h.2 (Int.not_lt.mp hc)
    refine r_aload_n hV rfl rfl (pc' := 13) rfl ?_
    refine r_iload_n hV rfl rfl (pc' := 14) rfl ?_
    obtain ⟨v14, m14, h, hr⟩ := h
    refine tt_cv1I hV rfl rfl rfl (Wd_obj (hB _ _ rfl)) (Nat.le_of_ble_eq_true rfl) (Nat.le_of_ble_eq_true rfl) rfl hr (pc' := 17) rfl ?_
    obtain ⟨g2, h⟩ := h
    refine tt_if_eq hV rfl g2 (pt := 129) (by decide) (pf := 20) rfl (fun hc => ?_) (fun hc => ?_)
    · replace h := h.1 hc
      refine tt_iinc2 hV rfl rfl (pc' := 132) rfl ?_
      refine r_goto hV rfl (pc' := 6) (by decide) ?_
      exact h
    · replace h := h.2 hc
      refine r_iload_n hV rfl rfl (pc' := 21) rfl ?_
      refine tt_bipush hV rfl (by decide) (pc' := 23) rfl ?_
      refine tt_icmp_ne hV rfl g1 (by decide) (pt := 30) (by decide) (pf := 26) rfl (fun hc => ?_) (fun hc => ?_)
      · replace h := h.1 hc
        refine r_aload_n hV rfl rfl (pc' := 31) rfl ?_
        refine r_iload_n hV rfl rfl (pc' := 32) rfl ?_
        refine tt_iconst hV rfl (pc' := 33) rfl ?_
        obtain ⟨v33, m33, h, hr⟩ := h
        refine tt_cv2I hV rfl rfl rfl (Wd_obj (hB _ _ rfl)) (Nat.le_of_ble_eq_true rfl) (Nat.le_of_ble_eq_true rfl) rfl hr (pc' := 36) rfl ?_
        refine tt_istore3 hV rfl rfl (pc' := 37) rfl ?_
        refine r_iload_n hV rfl rfl (pc' := 38) rfl ?_
        refine tt_bipush hV rfl (by decide) (pc' := 40) rfl ?_
        refine tt_icmp_eq hV rfl g1 (by decide) (pt := 61) (by decide) (pf := 43) rfl (fun hc => ?_) (fun hc => ?_)
        · replace h := h.1 hc
          refine r_aload_n hV rfl rfl (pc' := 62) rfl ?_
          obtain ⟨m62, h, hr⟩ := h
          refine tt_cv0U hV rfl rfl rfl (Wd_obj (hB _ _ rfl)) (Nat.le_of_ble_eq_true rfl) (Nat.le_of_ble_eq_true rfl) rfl hr (pc' := 65) rfl ?_
          refine tt_iconst hV rfl (pc' := 66) rfl ?_
          refine tt_istore4 hV rfl rfl (pc' := 68) rfl ?_
          exact h
        · replace h := h.2 hc
          refine r_aload_n hV rfl rfl (pc' := 44) rfl ?_
          refine tt_getR hV (tg := 6) (ci := 12) (kf := 26) rfl rfl (by decide) (hB _ _ rfl) rfl (by decide) (pc' := 47) rfl ?_
          refine tt_iconst hV rfl (pc' := 48) rfl ?_
          refine r_iload_n hV rfl rfl (pc' := 49) rfl ?_
          refine tt_imul hV rfl (pc' := 50) rfl ?_
          refine tt_iconst hV rfl (pc' := 51) rfl ?_
          refine tt_iadd hV rfl (pc' := 52) rfl ?_
          refine vtI (y := 4 * l2) (by clear h; omega) ?_
          refine tt_bipush hV rfl (by decide) (pc' := 54) rfl ?_
          refine r_iload_n hV rfl rfl (pc' := 55) rfl ?_
          refine r_iload_n hV rfl rfl (pc' := 56) rfl ?_
          refine tt_iadd hV rfl (pc' := 57) rfl ?_
          obtain ⟨g3, h⟩ := h
          refine tt_min hV rfl rfl rfl (by decide) g3 (Nat.le_of_ble_eq_true rfl) (pc' := 60) rfl ?_
          obtain ⟨g4, h⟩ := h
          refine q_iast hV rfl (hB _ _ rfl) (Nat.le_of_ble_eq_true rfl) rfl g4 (pc' := 61) rfl ?_
          refine r_aload_n hV rfl rfl (pc' := 62) rfl ?_
          obtain ⟨m62, h, hr⟩ := h
          refine tt_cv0U hV rfl rfl rfl (Wd_obj (hB _ _ rfl)) (Nat.le_of_ble_eq_true rfl) (Nat.le_of_ble_eq_true rfl) rfl hr (pc' := 65) rfl ?_
          refine tt_iconst hV rfl (pc' := 66) rfl ?_
          refine tt_istore4 hV rfl rfl (pc' := 68) rfl ?_
          exact h
      · replace h := h.2 (Decidable.not_not.mp hc)
        refine tt_iconst hV rfl (pc' := 27) rfl ?_
        refine r_goto hV rfl (pc' := 36) (by decide) ?_
        refine tt_istore3 hV rfl rfl (pc' := 37) rfl ?_
        refine r_iload_n hV rfl rfl (pc' := 38) rfl ?_
        refine tt_bipush hV rfl (by decide) (pc' := 40) rfl ?_
        refine tt_icmp_eq hV rfl g1 (by decide) (pt := 61) (by decide) (pf := 43) rfl (fun hc => ?_) (fun hc => ?_)
        · replace h := h.1 hc
          refine r_aload_n hV rfl rfl (pc' := 62) rfl ?_
          obtain ⟨m62, h, hr⟩ := h
          refine tt_cv0U hV rfl rfl rfl (Wd_obj (hB _ _ rfl)) (Nat.le_of_ble_eq_true rfl) (Nat.le_of_ble_eq_true rfl) rfl hr (pc' := 65) rfl ?_
          refine tt_iconst hV rfl (pc' := 66) rfl ?_
          refine tt_istore4 hV rfl rfl (pc' := 68) rfl ?_
          exact h
        · replace h := h.2 hc
          refine r_aload_n hV rfl rfl (pc' := 44) rfl ?_
          refine tt_getR hV (tg := 6) (ci := 12) (kf := 26) rfl rfl (by decide) (hB _ _ rfl) rfl (by decide) (pc' := 47) rfl ?_
          refine tt_iconst hV rfl (pc' := 48) rfl ?_
          refine r_iload_n hV rfl rfl (pc' := 49) rfl ?_
          refine tt_imul hV rfl (pc' := 50) rfl ?_
          refine tt_iconst hV rfl (pc' := 51) rfl ?_
          refine tt_iadd hV rfl (pc' := 52) rfl ?_
          refine vtI (y := 4 * l2) (by clear h; omega) ?_
          refine tt_bipush hV rfl (by decide) (pc' := 54) rfl ?_
          refine r_iload_n hV rfl rfl (pc' := 55) rfl ?_
          refine r_iload_n hV rfl rfl (pc' := 56) rfl ?_
          refine tt_iadd hV rfl (pc' := 57) rfl ?_
          refine vtI (y := x) (by clear h; omega) ?_
          obtain ⟨g5, h⟩ := h
          refine tt_min hV rfl rfl rfl (by decide) g5 (Nat.le_of_ble_eq_true rfl) (pc' := 60) rfl ?_
          obtain ⟨g6, h⟩ := h
          refine q_iast hV rfl (hB _ _ rfl) (Nat.le_of_ble_eq_true rfl) rfl g6 (pc' := 61) rfl ?_
          refine r_aload_n hV rfl rfl (pc' := 62) rfl ?_
          obtain ⟨m62, h, hr⟩ := h
          refine tt_cv0U hV rfl rfl rfl (Wd_obj (hB _ _ rfl)) (Nat.le_of_ble_eq_true rfl) (Nat.le_of_ble_eq_true rfl) rfl hr (pc' := 65) rfl ?_
          refine tt_iconst hV rfl (pc' := 66) rfl ?_
          refine tt_istore4 hV rfl rfl (pc' := 68) rfl ?_
          exact h
theorem M_layTracks_68w {X : Cx} {d : Nat} {x : Int} {l2 : Int} {l3 : Int} {l4 : Int} {m : Mm} {Q : Mm → Prop} (hB : Bsh X.2.2.1) (h : (-2147483648 ≤ l4 ∧ l4 < 2147483648) ∧ (20 < l4 → (-2147483648 ≤ l2 ∧ l2 < 2147483648) ∧ (l2 = 9 → M_layTracks_6 X (d + 1) x (l2 + 1) (some l3) (some l4) m Q) ∧ (l2 ≠ 9 → (0 ≤ 4 * l2 ∧ 4 * l2 < 24) ∧ M_layTracks_6 X (d + 1) x (l2 + 1) (some l3) (some l4) (up m 100 (4 * l2) l3) Q)) ∧ (l4 ≤ 20 → M_isLast X d m (fun v76 m76 => (-2147483648 ≤ v76 ∧ v76 < 2147483648) ∧ (v76 ≠ 0 → M_layTracks_87 X (d + 1) x l2 l3 l4 m76 Q) ∧ (v76 = 0 → M_slide X d m76 (fun v83 m83 => M_layTracks_87 X (d + 1) x l2 l3 l4 m83 Q))))) : M_layTracks_68 X (d + 1) x l2 l3 l4 m Q := by
  unfold M_layTracks_68
  have hV : Clo (gP X.1 X.2.1) (d + 1) 270 5 false (Ru0 (gP X.1 X.2.1) (d + 1) 270 X.2.2.1 X.2.2.2 Q) := Ru0_clo (q := mI270) rfl
  refine r_iload hV rfl rfl (pc' := 70) rfl ?_
  refine tt_bipush hV rfl (by decide) (pc' := 72) rfl ?_
  obtain ⟨g7, h⟩ := h
  refine tt_icmp_gt hV rfl g7 (by decide) (pt := 112) (by decide) (pf := 75) rfl (fun hc => ?_) (fun hc => ?_)
  · replace h := h.1 hc
    refine r_iload_n hV rfl rfl (pc' := 113) rfl ?_
    refine tt_bipush hV rfl (by decide) (pc' := 115) rfl ?_
    obtain ⟨g8, h⟩ := h
    refine tt_icmp_eq hV rfl g8 (by decide) (pt := 129) (by decide) (pf := 118) rfl (fun hc => ?_) (fun hc => ?_)
    · replace h := h.1 hc
      refine tt_iinc2 hV rfl rfl (pc' := 132) rfl ?_
      refine r_goto hV rfl (pc' := 6) (by decide) ?_
      exact h
    · replace h := h.2 hc
      refine r_aload_n hV rfl rfl (pc' := 119) rfl ?_
      refine tt_getR hV (tg := 6) (ci := 12) (kf := 26) rfl rfl (by decide) (hB _ _ rfl) rfl (by decide) (pc' := 122) rfl ?_
      refine tt_iconst hV rfl (pc' := 123) rfl ?_
      refine r_iload_n hV rfl rfl (pc' := 124) rfl ?_
      refine tt_imul hV rfl (pc' := 125) rfl ?_
      refine tt_iconst hV rfl (pc' := 126) rfl ?_
      refine tt_iadd hV rfl (pc' := 127) rfl ?_
      refine vtI (y := 4 * l2) (by clear h; omega) ?_
      refine r_iload_n hV rfl rfl (pc' := 128) rfl ?_
      obtain ⟨g9, h⟩ := h
      refine q_iast hV rfl (hB _ _ rfl) (Nat.le_of_ble_eq_true rfl) rfl g9 (pc' := 129) rfl ?_
      refine tt_iinc2 hV rfl rfl (pc' := 132) rfl ?_
      refine r_goto hV rfl (pc' := 6) (by decide) ?_
      exact h
  · replace h := h.2 (Int.not_lt.mp hc)
    refine r_aload_n hV rfl rfl (pc' := 76) rfl ?_
    obtain ⟨v76, m76, h, hr⟩ := h
    refine tt_cv0I hV rfl rfl rfl (Wd_obj (hB _ _ rfl)) (Nat.le_of_ble_eq_true rfl) (Nat.le_of_ble_eq_true rfl) rfl hr (pc' := 79) rfl ?_
    obtain ⟨g10, h⟩ := h
    refine tt_if_ne hV rfl g10 (pt := 87) (by decide) (pf := 82) rfl (fun hc => ?_) (fun hc => ?_)
    · replace h := h.1 hc
      exact h
    · replace h := h.2 (Decidable.not_not.mp hc)
      refine r_aload_n hV rfl rfl (pc' := 83) rfl ?_
      obtain ⟨v83, m83, h, hr⟩ := h
      refine tt_cv0I hV rfl rfl rfl (Wd_obj (hB _ _ rfl)) (Nat.le_of_ble_eq_true rfl) (Nat.le_of_ble_eq_true rfl) rfl hr (pc' := 86) rfl ?_
      refine r_pop hV rfl rfl (pc' := 87) rfl ?_
      exact h
theorem M_layTracks_87w {X : Cx} {d : Nat} {x : Int} {l2 : Int} {l3 : Int} {l4 : Int} {m : Mm} {Q : Mm → Prop} (hB : Bsh X.2.2.1) (h : (0 ≤ 21 * l2 + l4 ∧ 21 * l2 + l4 < 210) ∧ M_layTracks_68 X (d + 1) x l2 l3 (l4 + 1) (up m 110 (21 * l2 + l4) (m 101 22)) Q) : M_layTracks_87 X (d + 1) x l2 l3 l4 m Q := by
  unfold M_layTracks_87
  have hV : Clo (gP X.1 X.2.1) (d + 1) 270 5 false (Ru0 (gP X.1 X.2.1) (d + 1) 270 X.2.2.1 X.2.2.2 Q) := Ru0_clo (q := mI270) rfl
  refine r_aload_n hV rfl rfl (pc' := 88) rfl ?_
  refine tt_getR hV (tg := 6) (ci := 12) (kf := 49) rfl rfl (by decide) (hB _ _ rfl) rfl (by decide) (pc' := 91) rfl ?_
  refine tt_bipush hV rfl (by decide) (pc' := 93) rfl ?_
  refine r_iload_n hV rfl rfl (pc' := 94) rfl ?_
  refine tt_imul hV rfl (pc' := 95) rfl ?_
  refine r_iload hV rfl rfl (pc' := 97) rfl ?_
  refine tt_iadd hV rfl (pc' := 98) rfl ?_
  refine r_aload_n hV rfl rfl (pc' := 99) rfl ?_
  refine tt_getR hV (tg := 6) (ci := 12) (kf := 30) rfl rfl (by decide) (hB _ _ rfl) rfl (by decide) (pc' := 102) rfl ?_
  refine tt_bipush hV rfl (by decide) (pc' := 104) rfl ?_
  refine q_iald hV rfl (hB _ _ rfl) (Nat.le_of_ble_eq_true rfl) rfl (by decide) (pc' := 105) rfl ?_
  obtain ⟨g11, h⟩ := h
  refine q_iast hV rfl (hB _ _ rfl) (Nat.le_of_ble_eq_true rfl) rfl g11 (pc' := 106) rfl ?_
  refine tt_iinc4 hV rfl rfl (pc' := 109) rfl ?_
  refine r_goto hV rfl (pc' := 68) (by decide) ?_
  exact h
theorem M_isSow {X : Cx} {d : Nat} {x : Int} {m : Mm} {Q : Int → Mm → Prop} (hB : Bsh X.2.2.1) (h : M_isWho X d x m (fun v2 m2 => M_isSo_8 X (d + 1) x v2 0 m2 Q)) : M_isSo X (d + 1) x m Q := by
  unfold M_isSo
  have hV : Clo (gP X.1 X.2.1) (d + 1) 271 4 false (Rq (gP X.1 X.2.1) (d + 1) 271 X.2.2.1 X.2.2.2 Q) := Rq_clo (q := mI271) rfl
  refine r_aload_n hV rfl rfl (pc' := 1) rfl ?_
  refine r_iload_n hV rfl rfl (pc' := 2) rfl ?_
  obtain ⟨v2, m2, h, hr⟩ := h
  refine tt_cv1I hV rfl rfl rfl (Wd_obj (hB _ _ rfl)) (Nat.le_of_ble_eq_true rfl) (Nat.le_of_ble_eq_true rfl) rfl hr (pc' := 5) rfl ?_
  refine tt_istore2 hV rfl rfl (pc' := 6) rfl ?_
  refine tt_iconst hV rfl (pc' := 7) rfl ?_
  refine tt_istore3 hV rfl rfl (pc' := 8) rfl ?_
  exact h
theorem M_isSo_8w {X : Cx} {d : Nat} {x : Int} {l2 : Int} {l3 : Int} {m : Mm} {Q : Int → Mm → Prop} (hB : Bsh X.2.2.1) (h : (-2147483648 ≤ l3 ∧ l3 < 2147483648) ∧ (-2147483648 ≤ (m 83 48) ∧ (m 83 48) < 2147483648) ∧ (m 83 48 ≤ l3 → (l2 = 0 ∨ l2 = 1) ∧ Q l2 m) ∧ (l3 < m 83 48 → (-2147483648 ≤ l2 ∧ l2 < 2147483648) ∧ (l2 = 0 → (l2 = 0 ∨ l2 = 1) ∧ Q l2 m) ∧ (l2 ≠ 0 → (0 ≤ l3 ∧ l3 < 10) ∧ (0 ≤ 21 * x + m 107 l3 ∧ 21 * x + m 107 l3 < 210) ∧ (-2147483648 ≤ (m 110 (21 * x + m 107 l3)) ∧ (m 110 (21 * x + m 107 l3)) < 2147483648) ∧ (-2147483648 ≤ (m 108 l3) ∧ (m 108 l3) < 2147483648) ∧ (m 110 (21 * x + m 107 l3) ≠ m 108 l3 → (-2147483648 ≤ (m 109 l3) ∧ (m 109 l3) < 2147483648) ∧ (0 ≠ m 109 l3 → M_isSo_8 X (d + 1) x 0 (l3 + 1) m Q) ∧ (0 = m 109 l3 → M_isSo_8 X (d + 1) x 1 (l3 + 1) m Q)) ∧ (m 110 (21 * x + m 107 l3) = m 108 l3 → (-2147483648 ≤ (m 109 l3) ∧ (m 109 l3) < 2147483648) ∧ (1 ≠ m 109 l3 → M_isSo_8 X (d + 1) x 0 (l3 + 1) m Q) ∧ (1 = m 109 l3 → M_isSo_8 X (d + 1) x 1 (l3 + 1) m Q))))) : M_isSo_8 X (d + 1) x l2 l3 m Q := by
  unfold M_isSo_8
  have hV : Clo (gP X.1 X.2.1) (d + 1) 271 4 false (Rq (gP X.1 X.2.1) (d + 1) 271 X.2.2.1 X.2.2.2 Q) := Rq_clo (q := mI271) rfl
  refine r_iload_n hV rfl rfl (pc' := 9) rfl ?_
  refine r_aload_n hV rfl rfl (pc' := 10) rfl ?_
  refine tt_getI hV (tg := 0) (ci := 12) (kf := 48) rfl rfl (by decide) (hB _ _ rfl) rfl (by decide) (pc' := 13) rfl ?_
  obtain ⟨g1, h⟩ := h
  obtain ⟨g2, h⟩ := h
  refine tt_icmp_ge hV rfl g1 g2 (pt := 71) (by decide) (pf := 16) rfl (fun hc => ?_) (fun hc => ?_)
  · replace h := h.1 hc
    refine r_iload_n hV rfl rfl (pc' := 72) rfl ?_
    obtain ⟨g3, h⟩ := h
    exact rq_ret (q := mI271) rfl rfl (sR_bool g3) h
  · replace h := h.2 (Int.not_le.mp hc)
    refine r_iload_n hV rfl rfl (pc' := 17) rfl ?_
    obtain ⟨g4, h⟩ := h
    refine tt_if_eq hV rfl g4 (pt := 71) (by decide) (pf := 20) rfl (fun hc => ?_) (fun hc => ?_)
    · replace h := h.1 hc
      refine r_iload_n hV rfl rfl (pc' := 72) rfl ?_
      obtain ⟨g5, h⟩ := h
      exact rq_ret (q := mI271) rfl rfl (sR_bool g5) h
    · replace h := h.2 hc
      refine r_aload_n hV rfl rfl (pc' := 21) rfl ?_
      refine tt_getR hV (tg := 6) (ci := 12) (kf := 49) rfl rfl (by decide) (hB _ _ rfl) rfl (by decide) (pc' := 24) rfl ?_
      refine tt_bipush hV rfl (by decide) (pc' := 26) rfl ?_
      refine r_iload_n hV rfl rfl (pc' := 27) rfl ?_
      refine tt_imul hV rfl (pc' := 28) rfl ?_
      refine r_aload_n hV rfl rfl (pc' := 29) rfl ?_
      refine tt_getR hV (tg := 6) (ci := 12) (kf := 45) rfl rfl (by decide) (hB _ _ rfl) rfl (by decide) (pc' := 32) rfl ?_
      refine r_iload_n hV rfl rfl (pc' := 33) rfl ?_
      obtain ⟨g6, h⟩ := h
      refine q_iald hV rfl (hB _ _ rfl) (Nat.le_of_ble_eq_true rfl) rfl g6 (pc' := 34) rfl ?_
      refine tt_iadd hV rfl (pc' := 35) rfl ?_
      obtain ⟨g7, h⟩ := h
      refine q_iald hV rfl (hB _ _ rfl) (Nat.le_of_ble_eq_true rfl) rfl g7 (pc' := 36) rfl ?_
      refine r_aload_n hV rfl rfl (pc' := 37) rfl ?_
      refine tt_getR hV (tg := 6) (ci := 12) (kf := 46) rfl rfl (by decide) (hB _ _ rfl) rfl (by decide) (pc' := 40) rfl ?_
      refine r_iload_n hV rfl rfl (pc' := 41) rfl ?_
      refine q_iald hV rfl (hB _ _ rfl) (Nat.le_of_ble_eq_true rfl) rfl g6 (pc' := 42) rfl ?_
      obtain ⟨g8, h⟩ := h
      obtain ⟨g9, h⟩ := h
      refine tt_icmp_ne hV rfl g8 g9 (pt := 49) (by decide) (pf := 45) rfl (fun hc => ?_) (fun hc => ?_)
      · replace h := h.1 hc
        refine tt_iconst hV rfl (pc' := 50) rfl ?_
        refine r_aload_n hV rfl rfl (pc' := 51) rfl ?_
        refine tt_getR hV (tg := 6) (ci := 12) (kf := 47) rfl rfl (by decide) (hB _ _ rfl) rfl (by decide) (pc' := 54) rfl ?_
        refine r_iload_n hV rfl rfl (pc' := 55) rfl ?_
        refine q_zald hV rfl (hB _ _ rfl) (Nat.le_of_ble_eq_true rfl) rfl g6 (pc' := 56) rfl ?_
        obtain ⟨g10, h⟩ := h
        refine tt_icmp_ne hV rfl (by decide) g10 (pt := 63) (by decide) (pf := 59) rfl (fun hc => ?_) (fun hc => ?_)
        · replace h := h.1 hc
          refine tt_iconst hV rfl (pc' := 64) rfl ?_
          refine tt_istore2 hV rfl rfl (pc' := 65) rfl ?_
          refine tt_iinc3 hV rfl rfl (pc' := 68) rfl ?_
          refine r_goto hV rfl (pc' := 8) (by decide) ?_
          exact h
        · replace h := h.2 (Decidable.not_not.mp hc)
          refine tt_iconst hV rfl (pc' := 60) rfl ?_
          refine r_goto hV rfl (pc' := 64) (by decide) ?_
          refine tt_istore2 hV rfl rfl (pc' := 65) rfl ?_
          refine tt_iinc3 hV rfl rfl (pc' := 68) rfl ?_
          refine r_goto hV rfl (pc' := 8) (by decide) ?_
          exact h
      · replace h := h.2 (Decidable.not_not.mp hc)
        refine tt_iconst hV rfl (pc' := 46) rfl ?_
        refine r_goto hV rfl (pc' := 50) (by decide) ?_
        refine r_aload_n hV rfl rfl (pc' := 51) rfl ?_
        refine tt_getR hV (tg := 6) (ci := 12) (kf := 47) rfl rfl (by decide) (hB _ _ rfl) rfl (by decide) (pc' := 54) rfl ?_
        refine r_iload_n hV rfl rfl (pc' := 55) rfl ?_
        refine q_zald hV rfl (hB _ _ rfl) (Nat.le_of_ble_eq_true rfl) rfl g6 (pc' := 56) rfl ?_
        obtain ⟨g11, h⟩ := h
        refine tt_icmp_ne hV rfl (by decide) g11 (pt := 63) (by decide) (pf := 59) rfl (fun hc => ?_) (fun hc => ?_)
        · replace h := h.1 hc
          refine tt_iconst hV rfl (pc' := 64) rfl ?_
          refine tt_istore2 hV rfl rfl (pc' := 65) rfl ?_
          refine tt_iinc3 hV rfl rfl (pc' := 68) rfl ?_
          refine r_goto hV rfl (pc' := 8) (by decide) ?_
          exact h
        · replace h := h.2 (Decidable.not_not.mp hc)
          refine tt_iconst hV rfl (pc' := 60) rfl ?_
          refine r_goto hV rfl (pc' := 64) (by decide) ?_
          refine tt_istore2 hV rfl rfl (pc' := 65) rfl ?_
          refine tt_iinc3 hV rfl rfl (pc' := 68) rfl ?_
          refine r_goto hV rfl (pc' := 8) (by decide) ?_
          exact h
theorem M_isMorew {X : Cx} {d : Nat} {x : Int} {m : Mm} {Q : Int → Mm → Prop} (hB : Bsh X.2.2.1) (h : (-2147483648 ≤ (m 83 28) ∧ (m 83 28) < 2147483648) ∧ (m 83 28 ≤ 0 → Q 0 m) ∧ (0 < m 83 28 → M_in X d x 1 5 m (fun v10 m10 => (-2147483648 ≤ v10 ∧ v10 < 2147483648) ∧ (v10 = 0 → Q 0 m10) ∧ (v10 ≠ 0 → Q 1 m10)))) : M_isMore X (d + 1) x m Q := by
  unfold M_isMore
  have hV : Clo (gP X.1 X.2.1) (d + 1) 272 2 false (Rq (gP X.1 X.2.1) (d + 1) 272 X.2.2.1 X.2.2.2 Q) := Rq_clo (q := mI272) rfl
  refine r_aload_n hV rfl rfl (pc' := 1) rfl ?_
  refine tt_getI hV (tg := 0) (ci := 12) (kf := 28) rfl rfl (by decide) (hB _ _ rfl) rfl (by decide) (pc' := 4) rfl ?_
  obtain ⟨g1, h⟩ := h
  refine tt_if_le hV rfl g1 (pt := 20) (by decide) (pf := 7) rfl (fun hc => ?_) (fun hc => ?_)
  · replace h := h.1 hc
    refine tt_iconst hV rfl (pc' := 21) rfl ?_
    exact rq_ret (q := mI272) rfl rfl rfl h
  · replace h := h.2 (Int.not_le.mp hc)
    refine r_iload_n hV rfl rfl (pc' := 8) rfl ?_
    refine tt_iconst hV rfl (pc' := 9) rfl ?_
    refine tt_iconst hV rfl (pc' := 10) rfl ?_
    obtain ⟨v10, m10, h, hr⟩ := h
    refine tt_cs3I hV rfl rfl rfl (Nat.le_of_ble_eq_true rfl) (Nat.le_of_ble_eq_true rfl) rfl hr (pc' := 13) rfl ?_
    obtain ⟨g2, h⟩ := h
    refine tt_if_eq hV rfl g2 (pt := 20) (by decide) (pf := 16) rfl (fun hc => ?_) (fun hc => ?_)
    · replace h := h.1 hc
      refine tt_iconst hV rfl (pc' := 21) rfl ?_
      exact rq_ret (q := mI272) rfl rfl rfl h
    · replace h := h.2 hc
      refine tt_iconst hV rfl (pc' := 17) rfl ?_
      refine r_goto hV rfl (pc' := 21) (by decide) ?_
      exact rq_ret (q := mI272) rfl rfl rfl h
theorem M_whow {X : Cx} {d : Nat} {x : Int} {y : Int} {m : Mm} {Q : Int → Mm → Prop} (hB : Bsh X.2.2.1) (h : M_isMore X d x m (fun v2 m2 => (-2147483648 ≤ v2 ∧ v2 < 2147483648) ∧ (v2 = 0 → Q (-1) m2) ∧ (v2 ≠ 0 → (-2147483648 ≤ y ∧ y < 2147483648) ∧ (-1 ≤ y → M_layTracks X d x m2 (fun m17 => M_who_25 X (d + 1) x y 0 0 m17 Q)) ∧ (y < -1 → Q (-1) m2)))) : M_who X (d + 1) x y m Q := by
  unfold M_who
  have hV : Clo (gP X.1 X.2.1) (d + 1) 273 5 false (Rq (gP X.1 X.2.1) (d + 1) 273 X.2.2.1 X.2.2.2 Q) := Rq_clo (q := mI273) rfl
  refine r_aload_n hV rfl rfl (pc' := 1) rfl ?_
  refine r_iload_n hV rfl rfl (pc' := 2) rfl ?_
  obtain ⟨v2, m2, h, hr⟩ := h
  refine tt_cv1I hV rfl rfl rfl (Wd_obj (hB _ _ rfl)) (Nat.le_of_ble_eq_true rfl) (Nat.le_of_ble_eq_true rfl) rfl hr (pc' := 5) rfl ?_
  obtain ⟨g1, h⟩ := h
  refine tt_if_eq hV rfl g1 (pt := 13) (by decide) (pf := 8) rfl (fun hc => ?_) (fun hc => ?_)
  · replace h := h.1 hc
    refine tt_iconst hV rfl (pc' := 14) rfl ?_
    exact rq_ret (q := mI273) rfl rfl rfl h
  · replace h := h.2 hc
    refine r_iload_n hV rfl rfl (pc' := 9) rfl ?_
    refine tt_iconst hV rfl (pc' := 10) rfl ?_
    obtain ⟨g2, h⟩ := h
    refine tt_icmp_ge hV rfl g2 (by decide) (pt := 15) (by decide) (pf := 13) rfl (fun hc => ?_) (fun hc => ?_)
    · replace h := h.1 hc
      refine r_aload_n hV rfl rfl (pc' := 16) rfl ?_
      refine r_iload_n hV rfl rfl (pc' := 17) rfl ?_
      obtain ⟨m17, h, hr⟩ := h
      refine tt_cv1U hV rfl rfl rfl (Wd_obj (hB _ _ rfl)) (Nat.le_of_ble_eq_true rfl) (Nat.le_of_ble_eq_true rfl) rfl hr (pc' := 20) rfl ?_
      refine tt_iconst hV rfl (pc' := 21) rfl ?_
      refine tt_istore3 hV rfl rfl (pc' := 22) rfl ?_
      refine tt_iconst hV rfl (pc' := 23) rfl ?_
      refine tt_istore4 hV rfl rfl (pc' := 25) rfl ?_
      exact h
    · replace h := h.2 (Int.not_le.mp hc)
      refine tt_iconst hV rfl (pc' := 14) rfl ?_
      exact rq_ret (q := mI273) rfl rfl rfl h
theorem M_who_25w {X : Cx} {d : Nat} {x : Int} {y : Int} {l3 : Int} {l4 : Int} {m : Mm} {Q : Int → Mm → Prop} (hB : Bsh X.2.2.1) (h : (-2147483648 ≤ l4 ∧ l4 < 2147483648) ∧ (9 < l4 → (-2147483648 ≤ y ∧ y < 2147483648) ∧ (y ≠ -1 → Q (-1) m) ∧ (y = -1 → Q l3 m)) ∧ (l4 ≤ 9 → M_isSo X d l4 m (fun v35 m35 => (-2147483648 ≤ v35 ∧ v35 < 2147483648) ∧ (v35 = 0 → M_who_25 X (d + 1) x y l3 (l4 + 1) m35 Q) ∧ (v35 ≠ 0 → (-2147483648 ≤ l3 ∧ l3 < 2147483648) ∧ (-2147483648 ≤ y ∧ y < 2147483648) ∧ (l3 ≠ y → M_who_25 X (d + 1) x y (l3 + 1) (l4 + 1) m35 Q) ∧ (l3 = y → Q l4 m35))))) : M_who_25 X (d + 1) x y l3 l4 m Q := by
  unfold M_who_25
  have hV : Clo (gP X.1 X.2.1) (d + 1) 273 5 false (Rq (gP X.1 X.2.1) (d + 1) 273 X.2.2.1 X.2.2.2 Q) := Rq_clo (q := mI273) rfl
  refine r_iload hV rfl rfl (pc' := 27) rfl ?_
  refine tt_bipush hV rfl (by decide) (pc' := 29) rfl ?_
  obtain ⟨g3, h⟩ := h
  refine tt_icmp_gt hV rfl g3 (by decide) (pt := 58) (by decide) (pf := 32) rfl (fun hc => ?_) (fun hc => ?_)
  · replace h := h.1 hc
    refine r_iload_n hV rfl rfl (pc' := 59) rfl ?_
    refine tt_iconst hV rfl (pc' := 60) rfl ?_
    obtain ⟨g4, h⟩ := h
    refine tt_icmp_ne hV rfl g4 (by decide) (pt := 67) (by decide) (pf := 63) rfl (fun hc => ?_) (fun hc => ?_)
    · replace h := h.1 hc
      refine tt_iconst hV rfl (pc' := 68) rfl ?_
      exact rq_ret (q := mI273) rfl rfl rfl h
    · replace h := h.2 (Decidable.not_not.mp hc)
      refine r_iload_n hV rfl rfl (pc' := 64) rfl ?_
      refine r_goto hV rfl (pc' := 68) (by decide) ?_
      exact rq_ret (q := mI273) rfl rfl rfl h
  · replace h := h.2 (Int.not_lt.mp hc)
    refine r_aload_n hV rfl rfl (pc' := 33) rfl ?_
    refine r_iload hV rfl rfl (pc' := 35) rfl ?_
    obtain ⟨v35, m35, h, hr⟩ := h
    refine tt_cv1I hV rfl rfl rfl (Wd_obj (hB _ _ rfl)) (Nat.le_of_ble_eq_true rfl) (Nat.le_of_ble_eq_true rfl) rfl hr (pc' := 38) rfl ?_
    obtain ⟨g5, h⟩ := h
    refine tt_if_eq hV rfl g5 (pt := 52) (by decide) (pf := 41) rfl (fun hc => ?_) (fun hc => ?_)
    · replace h := h.1 hc
      refine tt_iinc4 hV rfl rfl (pc' := 55) rfl ?_
      refine r_goto hV rfl (pc' := 25) (by decide) ?_
      exact h
    · replace h := h.2 hc
      refine r_iload_n hV rfl rfl (pc' := 42) rfl ?_
      refine r_iload_n hV rfl rfl (pc' := 43) rfl ?_
      obtain ⟨g6, h⟩ := h
      obtain ⟨g7, h⟩ := h
      refine tt_icmp_ne hV rfl g6 g7 (pt := 49) (by decide) (pf := 46) rfl (fun hc => ?_) (fun hc => ?_)
      · replace h := h.1 hc
        refine tt_iinc3 hV rfl rfl (pc' := 52) rfl ?_
        refine tt_iinc4 hV rfl rfl (pc' := 55) rfl ?_
        refine r_goto hV rfl (pc' := 25) (by decide) ?_
        exact h
      · replace h := h.2 (Decidable.not_not.mp hc)
        refine r_iload hV rfl rfl (pc' := 48) rfl ?_
        exact rq_ret (q := mI273) rfl rfl rfl h
theorem M_mostTellw {X : Cx} {d : Nat} {x : Int} {m : Mm} {Q : Int → Mm → Prop} (hB : Bsh X.2.2.1) (h : M_mostTell_4 X (d + 1) x 0 0 none none m Q) : M_mostTell X (d + 1) x m Q := by
  unfold M_mostTell
  have hV : Clo (gP X.1 X.2.1) (d + 1) 274 6 false (Rq (gP X.1 X.2.1) (d + 1) 274 X.2.2.1 X.2.2.2 Q) := Rq_clo (q := mI274) rfl
  refine tt_iconst hV rfl (pc' := 1) rfl ?_
  refine tt_istore2 hV rfl rfl (pc' := 2) rfl ?_
  refine tt_iconst hV rfl (pc' := 3) rfl ?_
  refine tt_istore3 hV rfl rfl (pc' := 4) rfl ?_
  exact h
theorem M_mostTell_4w {X : Cx} {d : Nat} {x : Int} {l2 : Int} {l3 : Int} {o4 : Option Int} {o5 : Option Int} {m : Mm} {Q : Int → Mm → Prop} (hB : Bsh X.2.2.1) (h : (-2147483648 ≤ l3 ∧ l3 < 2147483648) ∧ (-2147483648 ≤ (m 98 0) ∧ (m 98 0) < 2147483648) ∧ (m 98 0 ≤ l3 → Q l2 m) ∧ (l3 < m 98 0 → M_mostTell_20 X (d + 1) x l2 l3 0 0 m Q)) : M_mostTell_4 X (d + 1) x l2 l3 o4 o5 m Q := by
  unfold M_mostTell_4
  have hV : Clo (gP X.1 X.2.1) (d + 1) 274 6 false (Rq (gP X.1 X.2.1) (d + 1) 274 X.2.2.1 X.2.2.2 Q) := Rq_clo (q := mI274) rfl
  refine r_iload_n hV rfl rfl (pc' := 5) rfl ?_
  refine r_aload_n hV rfl rfl (pc' := 6) rfl ?_
  refine tt_getR hV (tg := 6) (ci := 12) (kf := 24) rfl rfl (by decide) (hB _ _ rfl) rfl (by decide) (pc' := 9) rfl ?_
  refine tt_iconst hV rfl (pc' := 10) rfl ?_
  refine q_iald hV rfl (hB _ _ rfl) (Nat.le_of_ble_eq_true rfl) rfl (by decide) (pc' := 11) rfl ?_
  obtain ⟨g1, h⟩ := h
  obtain ⟨g2, h⟩ := h
  refine tt_icmp_ge hV rfl g1 g2 (pt := 81) (by decide) (pf := 14) rfl (fun hc => ?_) (fun hc => ?_)
  · replace h := h.1 hc
    refine r_iload_n hV rfl rfl (pc' := 82) rfl ?_
    exact rq_ret (q := mI274) rfl rfl rfl h
  · replace h := h.2 (Int.not_le.mp hc)
    refine tt_iconst hV rfl (pc' := 15) rfl ?_
    refine tt_istore4 hV rfl rfl (pc' := 17) rfl ?_
    refine tt_iconst hV rfl (pc' := 18) rfl ?_
    refine tt_istore5 hV rfl rfl (pc' := 20) rfl ?_
    exact h
theorem M_mostTell_20w {X : Cx} {d : Nat} {x : Int} {l2 : Int} {l3 : Int} {l4 : Int} {l5 : Int} {m : Mm} {Q : Int → Mm → Prop} (hB : Bsh X.2.2.1) (h : (-2147483648 ≤ l5 ∧ l5 < 2147483648) ∧ (9 < l5 → (-2147483648 ≤ l2 ∧ l2 < 2147483648) ∧ (-2147483648 ≤ l4 ∧ l4 < 2147483648) ∧ M_mostTell_4 X (d + 1) x ((max l2 l4)) (l3 + 1) (some l4) (some l5) m Q) ∧ (l5 ≤ 9 → M_isSo X d l5 m (fun v32 m32 => (-2147483648 ≤ v32 ∧ v32 < 2147483648) ∧ (v32 = 0 → M_mostTell_20 X (d + 1) x l2 l3 l4 (l5 + 1) m32 Q) ∧ (v32 ≠ 0 → (0 ≤ 21 * l5 + x ∧ 21 * l5 + x < 210) ∧ (-2147483648 ≤ (m32 110 (21 * l5 + x)) ∧ (m32 110 (21 * l5 + x)) < 2147483648) ∧ (-2147483648 ≤ l3 ∧ l3 < 2147483648) ∧ (m32 110 (21 * l5 + x) ≠ l3 → M_mostTell_20 X (d + 1) x l2 l3 l4 (l5 + 1) m32 Q) ∧ (m32 110 (21 * l5 + x) = l3 → M_mostTell_20 X (d + 1) x l2 l3 (l4 + 1) (l5 + 1) m32 Q))))) : M_mostTell_20 X (d + 1) x l2 l3 l4 l5 m Q := by
  unfold M_mostTell_20
  have hV : Clo (gP X.1 X.2.1) (d + 1) 274 6 false (Rq (gP X.1 X.2.1) (d + 1) 274 X.2.2.1 X.2.2.2 Q) := Rq_clo (q := mI274) rfl
  refine r_iload hV rfl rfl (pc' := 22) rfl ?_
  refine tt_bipush hV rfl (by decide) (pc' := 24) rfl ?_
  obtain ⟨g3, h⟩ := h
  refine tt_icmp_gt hV rfl g3 (by decide) (pt := 68) (by decide) (pf := 27) rfl (fun hc => ?_) (fun hc => ?_)
  · replace h := h.1 hc
    refine r_iload_n hV rfl rfl (pc' := 69) rfl ?_
    refine r_iload hV rfl rfl (pc' := 71) rfl ?_
    obtain ⟨g4, h⟩ := h
    obtain ⟨g5, h⟩ := h
    refine tt_max hV rfl rfl rfl g4 g5 (Nat.le_of_ble_eq_true rfl) (pc' := 74) rfl ?_
    refine tt_istore2 hV rfl rfl (pc' := 75) rfl ?_
    refine tt_iinc3 hV rfl rfl (pc' := 78) rfl ?_
    refine r_goto hV rfl (pc' := 4) (by decide) ?_
    exact h
  · replace h := h.2 (Int.not_lt.mp hc)
    refine r_iload hV rfl rfl (pc' := 29) rfl ?_
    refine r_aload_n hV rfl rfl (pc' := 30) rfl ?_
    refine r_iload hV rfl rfl (pc' := 32) rfl ?_
    obtain ⟨v32, m32, h, hr⟩ := h
    refine tt_cv1I hV rfl rfl rfl (Wd_obj (hB _ _ rfl)) (Nat.le_of_ble_eq_true rfl) (Nat.le_of_ble_eq_true rfl) rfl hr (pc' := 35) rfl ?_
    obtain ⟨g6, h⟩ := h
    refine tt_if_eq hV rfl g6 (pt := 58) (by decide) (pf := 38) rfl (fun hc => ?_) (fun hc => ?_)
    · replace h := h.1 hc
      refine tt_iconst hV rfl (pc' := 59) rfl ?_
      refine tt_iadd hV rfl (pc' := 60) rfl ?_
      refine vtI (y := l4) (by clear h; omega) ?_
      refine tt_istore4 hV rfl rfl (pc' := 62) rfl ?_
      refine tt_iinc5 hV rfl rfl (pc' := 65) rfl ?_
      refine r_goto hV rfl (pc' := 20) (by decide) ?_
      exact h
    · replace h := h.2 hc
      refine r_aload_n hV rfl rfl (pc' := 39) rfl ?_
      refine tt_getR hV (tg := 6) (ci := 12) (kf := 49) rfl rfl (by decide) (hB _ _ rfl) rfl (by decide) (pc' := 42) rfl ?_
      refine tt_bipush hV rfl (by decide) (pc' := 44) rfl ?_
      refine r_iload hV rfl rfl (pc' := 46) rfl ?_
      refine tt_imul hV rfl (pc' := 47) rfl ?_
      refine r_iload_n hV rfl rfl (pc' := 48) rfl ?_
      refine tt_iadd hV rfl (pc' := 49) rfl ?_
      obtain ⟨g7, h⟩ := h
      refine q_iald hV rfl (hB _ _ rfl) (Nat.le_of_ble_eq_true rfl) rfl g7 (pc' := 50) rfl ?_
      refine r_iload_n hV rfl rfl (pc' := 51) rfl ?_
      obtain ⟨g8, h⟩ := h
      obtain ⟨g9, h⟩ := h
      refine tt_icmp_ne hV rfl g8 g9 (pt := 58) (by decide) (pf := 54) rfl (fun hc => ?_) (fun hc => ?_)
      · replace h := h.1 hc
        refine tt_iconst hV rfl (pc' := 59) rfl ?_
        refine tt_iadd hV rfl (pc' := 60) rfl ?_
        refine vtI (y := l4) (by clear h; omega) ?_
        refine tt_istore4 hV rfl rfl (pc' := 62) rfl ?_
        refine tt_iinc5 hV rfl rfl (pc' := 65) rfl ?_
        refine r_goto hV rfl (pc' := 20) (by decide) ?_
        exact h
      · replace h := h.2 (Decidable.not_not.mp hc)
        refine tt_iconst hV rfl (pc' := 55) rfl ?_
        refine r_goto hV rfl (pc' := 59) (by decide) ?_
        refine tt_iadd hV rfl (pc' := 60) rfl ?_
        refine tt_istore4 hV rfl rfl (pc' := 62) rfl ?_
        refine tt_iinc5 hV rfl rfl (pc' := 65) rfl ?_
        refine r_goto hV rfl (pc' := 20) (by decide) ?_
        exact h
theorem M_bestw {X : Cx} {d : Nat} {x : Int} {m : Mm} {Q : Int → Mm → Prop} (hB : Bsh X.2.2.1) (h : M_isMore X d x m (fun v2 m2 => (-2147483648 ≤ v2 ∧ v2 < 2147483648) ∧ (v2 = 0 → Q (-1) m2) ∧ (v2 ≠ 0 → M_who X d x 0 m2 (fun v11 m11 => (-2147483648 ≤ v11 ∧ v11 < 2147483648) ∧ (v11 ≠ -1 → M_mostTell X d 1 m11 (fun v24 m24 => M_best_31 X (d + 1) x 1 v24 2 none m24 Q)) ∧ (v11 = -1 → Q (-1) m11))))) : M_best X (d + 1) x m Q := by
  unfold M_best
  have hV : Clo (gP X.1 X.2.1) (d + 1) 275 6 false (Rq (gP X.1 X.2.1) (d + 1) 275 X.2.2.1 X.2.2.2 Q) := Rq_clo (q := mI275) rfl
  refine r_aload_n hV rfl rfl (pc' := 1) rfl ?_
  refine r_iload_n hV rfl rfl (pc' := 2) rfl ?_
  obtain ⟨v2, m2, h, hr⟩ := h
  refine tt_cv1I hV rfl rfl rfl (Wd_obj (hB _ _ rfl)) (Nat.le_of_ble_eq_true rfl) (Nat.le_of_ble_eq_true rfl) rfl hr (pc' := 5) rfl ?_
  obtain ⟨g1, h⟩ := h
  refine tt_if_eq hV rfl g1 (pt := 18) (by decide) (pf := 8) rfl (fun hc => ?_) (fun hc => ?_)
  · replace h := h.1 hc
    refine tt_iconst hV rfl (pc' := 19) rfl ?_
    exact rq_ret (q := mI275) rfl rfl rfl h
  · replace h := h.2 hc
    refine r_aload_n hV rfl rfl (pc' := 9) rfl ?_
    refine r_iload_n hV rfl rfl (pc' := 10) rfl ?_
    refine tt_iconst hV rfl (pc' := 11) rfl ?_
    obtain ⟨v11, m11, h, hr⟩ := h
    refine tt_cv2I hV rfl rfl rfl (Wd_obj (hB _ _ rfl)) (Nat.le_of_ble_eq_true rfl) (Nat.le_of_ble_eq_true rfl) rfl hr (pc' := 14) rfl ?_
    refine tt_iconst hV rfl (pc' := 15) rfl ?_
    obtain ⟨g2, h⟩ := h
    refine tt_icmp_ne hV rfl g2 (by decide) (pt := 20) (by decide) (pf := 18) rfl (fun hc => ?_) (fun hc => ?_)
    · replace h := h.1 hc
      refine tt_iconst hV rfl (pc' := 21) rfl ?_
      refine tt_istore2 hV rfl rfl (pc' := 22) rfl ?_
      refine r_aload_n hV rfl rfl (pc' := 23) rfl ?_
      refine tt_iconst hV rfl (pc' := 24) rfl ?_
      obtain ⟨v24, m24, h, hr⟩ := h
      refine tt_cv1I hV rfl rfl rfl (Wd_obj (hB _ _ rfl)) (Nat.le_of_ble_eq_true rfl) (Nat.le_of_ble_eq_true rfl) rfl hr (pc' := 27) rfl ?_
      refine tt_istore3 hV rfl rfl (pc' := 28) rfl ?_
      refine tt_iconst hV rfl (pc' := 29) rfl ?_
      refine tt_istore4 hV rfl rfl (pc' := 31) rfl ?_
      exact h
    · replace h := h.2 (Decidable.not_not.mp hc)
      refine tt_iconst hV rfl (pc' := 19) rfl ?_
      exact rq_ret (q := mI275) rfl rfl rfl h
theorem M_best_31w {X : Cx} {d : Nat} {x : Int} {l2 : Int} {l3 : Int} {l4 : Int} {o5 : Option Int} {m : Mm} {Q : Int → Mm → Prop} (hB : Bsh X.2.2.1) (h : (-2147483648 ≤ l4 ∧ l4 < 2147483648) ∧ (-2147483648 ≤ (m 98 3) ∧ (m 98 3) < 2147483648) ∧ (m 98 3 < l4 → Q l2 m) ∧ (l4 ≤ m 98 3 → M_mostTell X d l4 m (fun v45 m45 => (-2147483648 ≤ v45 ∧ v45 < 2147483648) ∧ (-2147483648 ≤ l3 ∧ l3 < 2147483648) ∧ (l3 ≤ v45 → M_best_31 X (d + 1) x l2 l3 (l4 + 1) (some v45) m45 Q) ∧ (v45 < l3 → M_best_31 X (d + 1) x l4 v45 (l4 + 1) (some v45) m45 Q)))) : M_best_31 X (d + 1) x l2 l3 l4 o5 m Q := by
  unfold M_best_31
  have hV : Clo (gP X.1 X.2.1) (d + 1) 275 6 false (Rq (gP X.1 X.2.1) (d + 1) 275 X.2.2.1 X.2.2.2 Q) := Rq_clo (q := mI275) rfl
  refine r_iload hV rfl rfl (pc' := 33) rfl ?_
  refine r_aload_n hV rfl rfl (pc' := 34) rfl ?_
  refine tt_getR hV (tg := 6) (ci := 12) (kf := 24) rfl rfl (by decide) (hB _ _ rfl) rfl (by decide) (pc' := 37) rfl ?_
  refine tt_iconst hV rfl (pc' := 38) rfl ?_
  refine q_iald hV rfl (hB _ _ rfl) (Nat.le_of_ble_eq_true rfl) rfl (by decide) (pc' := 39) rfl ?_
  obtain ⟨g3, h⟩ := h
  obtain ⟨g4, h⟩ := h
  refine tt_icmp_gt hV rfl g3 g4 (pt := 68) (by decide) (pf := 42) rfl (fun hc => ?_) (fun hc => ?_)
  · replace h := h.1 hc
    refine r_iload_n hV rfl rfl (pc' := 69) rfl ?_
    exact rq_ret (q := mI275) rfl rfl rfl h
  · replace h := h.2 (Int.not_lt.mp hc)
    refine r_aload_n hV rfl rfl (pc' := 43) rfl ?_
    refine r_iload hV rfl rfl (pc' := 45) rfl ?_
    obtain ⟨v45, m45, h, hr⟩ := h
    refine tt_cv1I hV rfl rfl rfl (Wd_obj (hB _ _ rfl)) (Nat.le_of_ble_eq_true rfl) (Nat.le_of_ble_eq_true rfl) rfl hr (pc' := 48) rfl ?_
    refine tt_istore5 hV rfl rfl (pc' := 50) rfl ?_
    refine r_iload hV rfl rfl (pc' := 52) rfl ?_
    refine r_iload_n hV rfl rfl (pc' := 53) rfl ?_
    obtain ⟨g5, h⟩ := h
    obtain ⟨g6, h⟩ := h
    refine tt_icmp_ge hV rfl g5 g6 (pt := 62) (by decide) (pf := 56) rfl (fun hc => ?_) (fun hc => ?_)
    · replace h := h.1 hc
      refine tt_iinc4 hV rfl rfl (pc' := 65) rfl ?_
      refine r_goto hV rfl (pc' := 31) (by decide) ?_
      exact h
    · replace h := h.2 (Int.not_le.mp hc)
      refine r_iload hV rfl rfl (pc' := 58) rfl ?_
      refine tt_istore2 hV rfl rfl (pc' := 59) rfl ?_
      refine r_iload hV rfl rfl (pc' := 61) rfl ?_
      refine tt_istore3 hV rfl rfl (pc' := 62) rfl ?_
      refine tt_iinc4 hV rfl rfl (pc' := 65) rfl ?_
      refine r_goto hV rfl (pc' := 31) (by decide) ?_
      exact h
theorem M_oddsFromw {X : Cx} {d : Nat} {x : Int} {y : Int} {z : Int} {u : Int} {m : Mm} {Q : Int → Mm → Prop} (hB : Bsh X.2.2.1) (h : (-2147483648 ≤ x ∧ x < 2147483648) ∧ (-2147483648 ≤ (m 83 28) ∧ (m 83 28) < 2147483648) ∧ (x ≠ m 83 28 → (0 ≤ x ∧ x < 205) ∧ (0 ≤ x ∧ x < 6) ∧ M_isOn X d x (up m 111 x (m 101 x)) (fun v85 m85 => (-2147483648 ≤ v85 ∧ v85 < 2147483648) ∧ (v85 = 0 → M_oddsFrom_101 X (d + 1) x y z u m85 Q) ∧ (v85 ≠ 0 → (-2147483648 ≤ (m85 111 x) ∧ (m85 111 x) < 2147483648) ∧ (m85 111 x ≠ 1 → (-2147483648 ≤ u ∧ u < 2147483648) ∧ (-2147483648 ≤ z ∧ z < 2147483648) ∧ M_oddsFrom X d (x + 1) y z (u - (jDv (u * z) 100)) m85 (fun v137 m137 => M_oddsFrom X d (x + 1) y z ((jDv (u * z) 100)) (up m137 111 x (-m137 101 x + 2)) (fun v168 m168 => Q (v137 + v168) m168))) ∧ (m85 111 x = 1 → M_oddsFrom_101 X (d + 1) x y z u m85 Q)))) ∧ (x = m 83 28 → M_putAside X d m (fun m9 => M_oddsFrom_15 X (d + 1) x y z u 0 m9 Q))) : M_oddsFrom X (d + 1) x y z u m Q := by
  unfold M_oddsFrom
  have hV : Clo (gP X.1 X.2.1) (d + 1) 276 7 false (Rq (gP X.1 X.2.1) (d + 1) 276 X.2.2.1 X.2.2.2 Q) := Rq_clo (q := mI276) rfl
  refine r_iload_n hV rfl rfl (pc' := 1) rfl ?_
  refine r_aload_n hV rfl rfl (pc' := 2) rfl ?_
  refine tt_getI hV (tg := 0) (ci := 12) (kf := 28) rfl rfl (by decide) (hB _ _ rfl) rfl (by decide) (pc' := 5) rfl ?_
  obtain ⟨g1, h⟩ := h
  obtain ⟨g2, h⟩ := h
  refine tt_icmp_ne hV rfl g1 g2 (pt := 69) (by decide) (pf := 8) rfl (fun hc => ?_) (fun hc => ?_)
  · replace h := h.1 hc
    refine r_aload_n hV rfl rfl (pc' := 70) rfl ?_
    refine tt_getR hV (tg := 6) (ci := 12) (kf := 50) rfl rfl (by decide) (hB _ _ rfl) rfl (by decide) (pc' := 73) rfl ?_
    refine r_iload_n hV rfl rfl (pc' := 74) rfl ?_
    refine r_aload_n hV rfl rfl (pc' := 75) rfl ?_
    refine tt_getR hV (tg := 6) (ci := 12) (kf := 30) rfl rfl (by decide) (hB _ _ rfl) rfl (by decide) (pc' := 78) rfl ?_
    refine tt_iconst hV rfl (pc' := 79) rfl ?_
    refine r_iload_n hV rfl rfl (pc' := 80) rfl ?_
    refine tt_iadd hV rfl (pc' := 81) rfl ?_
    refine vtI (y := x) (by clear h; omega) ?_
    obtain ⟨g3, h⟩ := h
    refine q_iald hV rfl (hB _ _ rfl) (Nat.le_of_ble_eq_true rfl) rfl g3 (pc' := 82) rfl ?_
    obtain ⟨g4, h⟩ := h
    refine q_iast hV rfl (hB _ _ rfl) (Nat.le_of_ble_eq_true rfl) rfl g4 (pc' := 83) rfl ?_
    refine r_aload_n hV rfl rfl (pc' := 84) rfl ?_
    refine r_iload_n hV rfl rfl (pc' := 85) rfl ?_
    obtain ⟨v85, m85, h, hr⟩ := h
    refine tt_cv1I hV rfl rfl rfl (Wd_obj (hB _ _ rfl)) (Nat.le_of_ble_eq_true rfl) (Nat.le_of_ble_eq_true rfl) rfl hr (pc' := 88) rfl ?_
    obtain ⟨g5, h⟩ := h
    refine tt_if_eq hV rfl g5 (pt := 101) (by decide) (pf := 91) rfl (fun hc => ?_) (fun hc => ?_)
    · replace h := h.1 hc
      exact h
    · replace h := h.2 hc
      refine r_aload_n hV rfl rfl (pc' := 92) rfl ?_
      refine tt_getR hV (tg := 6) (ci := 12) (kf := 50) rfl rfl (by decide) (hB _ _ rfl) rfl (by decide) (pc' := 95) rfl ?_
      refine r_iload_n hV rfl rfl (pc' := 96) rfl ?_
      refine q_iald hV rfl (hB _ _ rfl) (Nat.le_of_ble_eq_true rfl) rfl g4 (pc' := 97) rfl ?_
      refine tt_iconst hV rfl (pc' := 98) rfl ?_
      obtain ⟨g6, h⟩ := h
      refine tt_icmp_ne hV rfl g6 (by decide) (pt := 113) (by decide) (pf := 101) rfl (fun hc => ?_) (fun hc => ?_)
      · replace h := h.1 hc
        refine r_iload hV rfl rfl (pc' := 115) rfl ?_
        obtain ⟨g7, h⟩ := h
        refine tt_i2l hV rfl g7 (pc' := 116) rfl ?_
        refine r_iload_n hV rfl rfl (pc' := 117) rfl ?_
        obtain ⟨g8, h⟩ := h
        refine tt_i2l hV rfl g8 (pc' := 118) rfl ?_
        refine tt_lmul hV rfl (pc' := 119) rfl ?_
        refine v_ldc2 hV (Int64.ofInt 100) rfl rfl rfl (pc' := 122) rfl ?_
        refine tt_ldiv hV rfl (by decide) (pc' := 123) rfl ?_
        refine tt_l2i hV rfl (pc' := 124) rfl ?_
        refine tt_istore5 hV rfl rfl (pc' := 126) rfl ?_
        refine r_aload_n hV rfl rfl (pc' := 127) rfl ?_
        refine r_iload_n hV rfl rfl (pc' := 128) rfl ?_
        refine tt_iconst hV rfl (pc' := 129) rfl ?_
        refine tt_iadd hV rfl (pc' := 130) rfl ?_
        refine r_iload_n hV rfl rfl (pc' := 131) rfl ?_
        refine r_iload_n hV rfl rfl (pc' := 132) rfl ?_
        refine r_iload hV rfl rfl (pc' := 134) rfl ?_
        refine r_iload hV rfl rfl (pc' := 136) rfl ?_
        refine tt_isub hV rfl (pc' := 137) rfl ?_
        obtain ⟨v137, m137, h, hr⟩ := h
        refine tt_cv4I hV rfl rfl rfl (Wd_obj (hB _ _ rfl)) (Nat.le_of_ble_eq_true rfl) (Nat.le_of_ble_eq_true rfl) rfl hr (pc' := 140) rfl ?_
        refine tt_istore6 hV rfl rfl (pc' := 142) rfl ?_
        refine r_aload_n hV rfl rfl (pc' := 143) rfl ?_
        refine tt_getR hV (tg := 6) (ci := 12) (kf := 50) rfl rfl (by decide) (hB _ _ rfl) rfl (by decide) (pc' := 146) rfl ?_
        refine r_iload_n hV rfl rfl (pc' := 147) rfl ?_
        refine tt_iconst hV rfl (pc' := 148) rfl ?_
        refine r_aload_n hV rfl rfl (pc' := 149) rfl ?_
        refine tt_getR hV (tg := 6) (ci := 12) (kf := 30) rfl rfl (by decide) (hB _ _ rfl) rfl (by decide) (pc' := 152) rfl ?_
        refine tt_iconst hV rfl (pc' := 153) rfl ?_
        refine r_iload_n hV rfl rfl (pc' := 154) rfl ?_
        refine tt_iadd hV rfl (pc' := 155) rfl ?_
        refine vtI (y := x) (by clear h; omega) ?_
        refine q_iald hV rfl (hB _ _ rfl) (Nat.le_of_ble_eq_true rfl) rfl g3 (pc' := 156) rfl ?_
        refine tt_isub hV rfl (pc' := 157) rfl ?_
        refine vtI (y := -m137 101 x + 2) (by clear h; omega) ?_
        refine q_iast hV rfl (hB _ _ rfl) (Nat.le_of_ble_eq_true rfl) rfl g4 (pc' := 158) rfl ?_
        refine r_iload hV rfl rfl (pc' := 160) rfl ?_
        refine r_aload_n hV rfl rfl (pc' := 161) rfl ?_
        refine r_iload_n hV rfl rfl (pc' := 162) rfl ?_
        refine tt_iconst hV rfl (pc' := 163) rfl ?_
        refine tt_iadd hV rfl (pc' := 164) rfl ?_
        refine r_iload_n hV rfl rfl (pc' := 165) rfl ?_
        refine r_iload_n hV rfl rfl (pc' := 166) rfl ?_
        refine r_iload hV rfl rfl (pc' := 168) rfl ?_
        obtain ⟨v168, m168, h, hr⟩ := h
        refine tt_cv4I hV rfl rfl rfl (Wd_obj (hB _ _ rfl)) (Nat.le_of_ble_eq_true rfl) (Nat.le_of_ble_eq_true rfl) rfl hr (pc' := 171) rfl ?_
        refine tt_iadd hV rfl (pc' := 172) rfl ?_
        exact rq_ret (q := mI276) rfl rfl rfl h
      · replace h := h.2 (Decidable.not_not.mp hc)
        exact h
  · replace h := h.2 (Decidable.not_not.mp hc)
    refine r_aload_n hV rfl rfl (pc' := 9) rfl ?_
    obtain ⟨m9, h, hr⟩ := h
    refine tt_cv0U hV rfl rfl rfl (Wd_obj (hB _ _ rfl)) (Nat.le_of_ble_eq_true rfl) (Nat.le_of_ble_eq_true rfl) rfl hr (pc' := 12) rfl ?_
    refine tt_iconst hV rfl (pc' := 13) rfl ?_
    refine tt_istore5 hV rfl rfl (pc' := 15) rfl ?_
    exact h
theorem M_oddsFrom_15w {X : Cx} {d : Nat} {x : Int} {y : Int} {z : Int} {u : Int} {l5 : Int} {m : Mm} {Q : Int → Mm → Prop} (hB : Bsh X.2.2.1) (h : (-2147483648 ≤ l5 ∧ l5 < 2147483648) ∧ (-2147483648 ≤ (m 83 28) ∧ (m 83 28) < 2147483648) ∧ (m 83 28 ≤ l5 → M_layEnd X d m (fun m47 => M_sideOf X d (m47 83 39) m47 (fun v55 m55 => (-2147483648 ≤ v55 ∧ v55 < 2147483648) ∧ (-2147483648 ≤ y ∧ y < 2147483648) ∧ (v55 ≠ y → Q 0 m55) ∧ (v55 = y → Q u m55)))) ∧ (l5 < m 83 28 → (0 ≤ l5 ∧ l5 < 6) ∧ (0 ≤ l5 ∧ l5 < 205) ∧ M_oddsFrom_15 X (d + 1) x y z u (l5 + 1) (up m 101 l5 (m 111 l5)) Q)) : M_oddsFrom_15 X (d + 1) x y z u l5 m Q := by
  unfold M_oddsFrom_15
  have hV : Clo (gP X.1 X.2.1) (d + 1) 276 7 false (Rq (gP X.1 X.2.1) (d + 1) 276 X.2.2.1 X.2.2.2 Q) := Rq_clo (q := mI276) rfl
  refine r_iload hV rfl rfl (pc' := 17) rfl ?_
  refine r_aload_n hV rfl rfl (pc' := 18) rfl ?_
  refine tt_getI hV (tg := 0) (ci := 12) (kf := 28) rfl rfl (by decide) (hB _ _ rfl) rfl (by decide) (pc' := 21) rfl ?_
  obtain ⟨g9, h⟩ := h
  obtain ⟨g10, h⟩ := h
  refine tt_icmp_ge hV rfl g9 g10 (pt := 46) (by decide) (pf := 24) rfl (fun hc => ?_) (fun hc => ?_)
  · replace h := h.1 hc
    refine r_aload_n hV rfl rfl (pc' := 47) rfl ?_
    obtain ⟨m47, h, hr⟩ := h
    refine tt_cv0U hV rfl rfl rfl (Wd_obj (hB _ _ rfl)) (Nat.le_of_ble_eq_true rfl) (Nat.le_of_ble_eq_true rfl) rfl hr (pc' := 50) rfl ?_
    refine r_aload_n hV rfl rfl (pc' := 51) rfl ?_
    refine r_aload_n hV rfl rfl (pc' := 52) rfl ?_
    refine tt_getI hV (tg := 0) (ci := 12) (kf := 39) rfl rfl (by decide) (hB _ _ rfl) rfl (by decide) (pc' := 55) rfl ?_
    obtain ⟨v55, m55, h, hr⟩ := h
    refine tt_cv1I hV rfl rfl rfl (Wd_obj (hB _ _ rfl)) (Nat.le_of_ble_eq_true rfl) (Nat.le_of_ble_eq_true rfl) rfl hr (pc' := 58) rfl ?_
    refine r_iload_n hV rfl rfl (pc' := 59) rfl ?_
    obtain ⟨g11, h⟩ := h
    obtain ⟨g12, h⟩ := h
    refine tt_icmp_ne hV rfl g11 g12 (pt := 67) (by decide) (pf := 62) rfl (fun hc => ?_) (fun hc => ?_)
    · replace h := h.1 hc
      refine tt_iconst hV rfl (pc' := 68) rfl ?_
      exact rq_ret (q := mI276) rfl rfl rfl h
    · replace h := h.2 (Decidable.not_not.mp hc)
      refine r_iload hV rfl rfl (pc' := 64) rfl ?_
      refine r_goto hV rfl (pc' := 68) (by decide) ?_
      exact rq_ret (q := mI276) rfl rfl rfl h
  · replace h := h.2 (Int.not_le.mp hc)
    refine r_aload_n hV rfl rfl (pc' := 25) rfl ?_
    refine tt_getR hV (tg := 6) (ci := 12) (kf := 30) rfl rfl (by decide) (hB _ _ rfl) rfl (by decide) (pc' := 28) rfl ?_
    refine tt_iconst hV rfl (pc' := 29) rfl ?_
    refine r_iload hV rfl rfl (pc' := 31) rfl ?_
    refine tt_iadd hV rfl (pc' := 32) rfl ?_
    refine vtI (y := l5) (by clear h; omega) ?_
    refine r_aload_n hV rfl rfl (pc' := 33) rfl ?_
    refine tt_getR hV (tg := 6) (ci := 12) (kf := 50) rfl rfl (by decide) (hB _ _ rfl) rfl (by decide) (pc' := 36) rfl ?_
    refine r_iload hV rfl rfl (pc' := 38) rfl ?_
    obtain ⟨g13, h⟩ := h
    refine q_iald hV rfl (hB _ _ rfl) (Nat.le_of_ble_eq_true rfl) rfl g13 (pc' := 39) rfl ?_
    obtain ⟨g14, h⟩ := h
    refine q_iast hV rfl (hB _ _ rfl) (Nat.le_of_ble_eq_true rfl) rfl g14 (pc' := 40) rfl ?_
    refine tt_iinc5 hV rfl rfl (pc' := 43) rfl ?_
    refine r_goto hV rfl (pc' := 15) (by decide) ?_
    exact h
theorem M_oddsFrom_101w {X : Cx} {d : Nat} {x : Int} {y : Int} {z : Int} {u : Int} {m : Mm} {Q : Int → Mm → Prop} (hB : Bsh X.2.2.1) (h : M_oddsFrom X d (x + 1) y z u m (fun v109 m109 => Q v109 m109)) : M_oddsFrom_101 X (d + 1) x y z u m Q := by
  unfold M_oddsFrom_101
  have hV : Clo (gP X.1 X.2.1) (d + 1) 276 7 false (Rq (gP X.1 X.2.1) (d + 1) 276 X.2.2.1 X.2.2.2 Q) := Rq_clo (q := mI276) rfl
  refine r_aload_n hV rfl rfl (pc' := 102) rfl ?_
  refine r_iload_n hV rfl rfl (pc' := 103) rfl ?_
  refine tt_iconst hV rfl (pc' := 104) rfl ?_
  refine tt_iadd hV rfl (pc' := 105) rfl ?_
  refine r_iload_n hV rfl rfl (pc' := 106) rfl ?_
  refine r_iload_n hV rfl rfl (pc' := 107) rfl ?_
  refine r_iload hV rfl rfl (pc' := 109) rfl ?_
  obtain ⟨v109, m109, h, hr⟩ := h
  refine tt_cv4I hV rfl rfl rfl (Wd_obj (hB _ _ rfl)) (Nat.le_of_ble_eq_true rfl) (Nat.le_of_ble_eq_true rfl) rfl hr (pc' := 112) rfl ?_
  exact rq_ret (q := mI276) rfl rfl rfl h
theorem M_oddsw {X : Cx} {d : Nat} {x : Int} {y : Int} {m : Mm} {Q : Int → Mm → Prop} (hB : Bsh X.2.2.1) (h : (-2147483648 ≤ (m 83 28) ∧ (m 83 28) < 2147483648) ∧ (m 83 28 ≤ 0 → Q (-1) m) ∧ (0 < m 83 28 → M_in X d x 0 2 m (fun v10 m10 => (-2147483648 ≤ v10 ∧ v10 < 2147483648) ∧ (v10 = 0 → Q (-1) m10) ∧ (v10 ≠ 0 → M_in X d y 0 100 m10 (fun v20 m20 => (-2147483648 ≤ v20 ∧ v20 < 2147483648) ∧ (v20 = 0 → Q (-1) m20) ∧ (v20 ≠ 0 → M_oddsFrom X d 0 x y 1000000000 m20 (fun v33 m33 => Q v33 m33))))))) : M_odds X (d + 1) x y m Q := by
  unfold M_odds
  have hV : Clo (gP X.1 X.2.1) (d + 1) 277 3 false (Rq (gP X.1 X.2.1) (d + 1) 277 X.2.2.1 X.2.2.2 Q) := Rq_clo (q := mI277) rfl
  refine r_aload_n hV rfl rfl (pc' := 1) rfl ?_
  refine tt_getI hV (tg := 0) (ci := 12) (kf := 28) rfl rfl (by decide) (hB _ _ rfl) rfl (by decide) (pc' := 4) rfl ?_
  obtain ⟨g1, h⟩ := h
  refine tt_if_le hV rfl g1 (pt := 39) (by decide) (pf := 7) rfl (fun hc => ?_) (fun hc => ?_)
  · replace h := h.1 hc
    refine tt_iconst hV rfl (pc' := 40) rfl ?_
    exact rq_ret (q := mI277) rfl rfl rfl h
  · replace h := h.2 (Int.not_le.mp hc)
    refine r_iload_n hV rfl rfl (pc' := 8) rfl ?_
    refine tt_iconst hV rfl (pc' := 9) rfl ?_
    refine tt_iconst hV rfl (pc' := 10) rfl ?_
    obtain ⟨v10, m10, h, hr⟩ := h
    refine tt_cs3I hV rfl rfl rfl (Nat.le_of_ble_eq_true rfl) (Nat.le_of_ble_eq_true rfl) rfl hr (pc' := 13) rfl ?_
    obtain ⟨g2, h⟩ := h
    refine tt_if_eq hV rfl g2 (pt := 39) (by decide) (pf := 16) rfl (fun hc => ?_) (fun hc => ?_)
    · replace h := h.1 hc
      refine tt_iconst hV rfl (pc' := 40) rfl ?_
      exact rq_ret (q := mI277) rfl rfl rfl h
    · replace h := h.2 hc
      refine r_iload_n hV rfl rfl (pc' := 17) rfl ?_
      refine tt_iconst hV rfl (pc' := 18) rfl ?_
      refine tt_bipush hV rfl (by decide) (pc' := 20) rfl ?_
      obtain ⟨v20, m20, h, hr⟩ := h
      refine tt_cs3I hV rfl rfl rfl (Nat.le_of_ble_eq_true rfl) (Nat.le_of_ble_eq_true rfl) rfl hr (pc' := 23) rfl ?_
      obtain ⟨g3, h⟩ := h
      refine tt_if_eq hV rfl g3 (pt := 39) (by decide) (pf := 26) rfl (fun hc => ?_) (fun hc => ?_)
      · replace h := h.1 hc
        refine tt_iconst hV rfl (pc' := 40) rfl ?_
        exact rq_ret (q := mI277) rfl rfl rfl h
      · replace h := h.2 hc
        refine r_aload_n hV rfl rfl (pc' := 27) rfl ?_
        refine tt_iconst hV rfl (pc' := 28) rfl ?_
        refine r_iload_n hV rfl rfl (pc' := 29) rfl ?_
        refine r_iload_n hV rfl rfl (pc' := 30) rfl ?_
        refine v_ldcw hV (Int32.ofInt 1000000000) rfl rfl rfl (pc' := 33) rfl ?_
        obtain ⟨v33, m33, h, hr⟩ := h
        refine tt_cv4I hV rfl rfl rfl (Wd_obj (hB _ _ rfl)) (Nat.le_of_ble_eq_true rfl) (Nat.le_of_ble_eq_true rfl) rfl hr (pc' := 36) rfl ?_
        refine r_goto hV rfl (pc' := 40) (by decide) ?_
        exact rq_ret (q := mI277) rfl rfl rfl h
theorem M_weightOnw {X : Cx} {d : Nat} {x : Int} {m : Mm} {Q : Int → Mm → Prop} (hB : Bsh X.2.2.1) (h : M_weightOn_4 X (d + 1) x 0 0 m Q) : M_weightOn X (d + 1) x m Q := by
  unfold M_weightOn
  have hV : Clo (gP X.1 X.2.1) (d + 1) 278 4 false (Rq (gP X.1 X.2.1) (d + 1) 278 X.2.2.1 X.2.2.2 Q) := Rq_clo (q := mI278) rfl
  refine tt_iconst hV rfl (pc' := 1) rfl ?_
  refine tt_istore2 hV rfl rfl (pc' := 2) rfl ?_
  refine tt_iconst hV rfl (pc' := 3) rfl ?_
  refine tt_istore3 hV rfl rfl (pc' := 4) rfl ?_
  exact h
theorem M_weightOn_4w {X : Cx} {d : Nat} {x : Int} {l2 : Int} {l3 : Int} {m : Mm} {Q : Int → Mm → Prop} (hB : Bsh X.2.2.1) (h : (-2147483648 ≤ l3 ∧ l3 < 2147483648) ∧ (-2147483648 ≤ (m 83 28) ∧ (m 83 28) < 2147483648) ∧ (m 83 28 ≤ l3 → Q l2 m) ∧ (l3 < m 83 28 → M_isOn X d l3 m (fun v15 m15 => (-2147483648 ≤ v15 ∧ v15 < 2147483648) ∧ (v15 = 0 → M_weightOn_4 X (d + 1) x l2 (l3 + 1) m15 Q) ∧ (v15 ≠ 0 → (-2147483648 ≤ x ∧ x < 2147483648) ∧ (x = -1 → M_of X d l3 0 m15 (fun v41 m41 => M_weightOn_4 X (d + 1) x (l2 + v41) (l3 + 1) m41 Q)) ∧ (x ≠ -1 → (0 ≤ l3 ∧ l3 < 205) ∧ (-2147483648 ≤ (m15 101 l3) ∧ (m15 101 l3) < 2147483648) ∧ (m15 101 l3 ≠ x → M_weightOn_4 X (d + 1) x l2 (l3 + 1) m15 Q) ∧ (m15 101 l3 = x → M_of X d l3 0 m15 (fun v41 m41 => M_weightOn_4 X (d + 1) x (l2 + v41) (l3 + 1) m41 Q))))))) : M_weightOn_4 X (d + 1) x l2 l3 m Q := by
  unfold M_weightOn_4
  have hV : Clo (gP X.1 X.2.1) (d + 1) 278 4 false (Rq (gP X.1 X.2.1) (d + 1) 278 X.2.2.1 X.2.2.2 Q) := Rq_clo (q := mI278) rfl
  refine r_iload_n hV rfl rfl (pc' := 5) rfl ?_
  refine r_aload_n hV rfl rfl (pc' := 6) rfl ?_
  refine tt_getI hV (tg := 0) (ci := 12) (kf := 28) rfl rfl (by decide) (hB _ _ rfl) rfl (by decide) (pc' := 9) rfl ?_
  obtain ⟨g1, h⟩ := h
  obtain ⟨g2, h⟩ := h
  refine tt_icmp_ge hV rfl g1 g2 (pt := 56) (by decide) (pf := 12) rfl (fun hc => ?_) (fun hc => ?_)
  · replace h := h.1 hc
    refine r_iload_n hV rfl rfl (pc' := 57) rfl ?_
    exact rq_ret (q := mI278) rfl rfl rfl h
  · replace h := h.2 (Int.not_le.mp hc)
    refine r_iload_n hV rfl rfl (pc' := 13) rfl ?_
    refine r_aload_n hV rfl rfl (pc' := 14) rfl ?_
    refine r_iload_n hV rfl rfl (pc' := 15) rfl ?_
    obtain ⟨v15, m15, h, hr⟩ := h
    refine tt_cv1I hV rfl rfl rfl (Wd_obj (hB _ _ rfl)) (Nat.le_of_ble_eq_true rfl) (Nat.le_of_ble_eq_true rfl) rfl hr (pc' := 18) rfl ?_
    obtain ⟨g3, h⟩ := h
    refine tt_if_eq hV rfl g3 (pt := 47) (by decide) (pf := 21) rfl (fun hc => ?_) (fun hc => ?_)
    · replace h := h.1 hc
      refine tt_iconst hV rfl (pc' := 48) rfl ?_
      refine tt_iadd hV rfl (pc' := 49) rfl ?_
      refine vtI (y := l2) (by clear h; omega) ?_
      refine tt_istore2 hV rfl rfl (pc' := 50) rfl ?_
      refine tt_iinc3 hV rfl rfl (pc' := 53) rfl ?_
      refine r_goto hV rfl (pc' := 4) (by decide) ?_
      exact h
    · replace h := h.2 hc
      refine r_iload_n hV rfl rfl (pc' := 22) rfl ?_
      refine tt_iconst hV rfl (pc' := 23) rfl ?_
      obtain ⟨g4, h⟩ := h
      refine tt_icmp_eq hV rfl g4 (by decide) (pt := 38) (by decide) (pf := 26) rfl (fun hc => ?_) (fun hc => ?_)
      · replace h := h.1 hc
        refine r_aload_n hV rfl rfl (pc' := 39) rfl ?_
        refine r_iload_n hV rfl rfl (pc' := 40) rfl ?_
        refine tt_iconst hV rfl (pc' := 41) rfl ?_
        obtain ⟨v41, m41, h, hr⟩ := h
        refine tt_cv2I hV rfl rfl rfl (Wd_obj (hB _ _ rfl)) (Nat.le_of_ble_eq_true rfl) (Nat.le_of_ble_eq_true rfl) rfl hr (pc' := 44) rfl ?_
        refine r_goto hV rfl (pc' := 48) (by decide) ?_
        refine tt_iadd hV rfl (pc' := 49) rfl ?_
        refine tt_istore2 hV rfl rfl (pc' := 50) rfl ?_
        refine tt_iinc3 hV rfl rfl (pc' := 53) rfl ?_
        refine r_goto hV rfl (pc' := 4) (by decide) ?_
        exact h
      · replace h := h.2 hc
        refine r_aload_n hV rfl rfl (pc' := 27) rfl ?_
        refine tt_getR hV (tg := 6) (ci := 12) (kf := 30) rfl rfl (by decide) (hB _ _ rfl) rfl (by decide) (pc' := 30) rfl ?_
        refine tt_iconst hV rfl (pc' := 31) rfl ?_
        refine r_iload_n hV rfl rfl (pc' := 32) rfl ?_
        refine tt_iadd hV rfl (pc' := 33) rfl ?_
        refine vtI (y := l3) (by clear h; omega) ?_
        obtain ⟨g5, h⟩ := h
        refine q_iald hV rfl (hB _ _ rfl) (Nat.le_of_ble_eq_true rfl) rfl g5 (pc' := 34) rfl ?_
        refine r_iload_n hV rfl rfl (pc' := 35) rfl ?_
        obtain ⟨g6, h⟩ := h
        refine tt_icmp_ne hV rfl g6 g4 (pt := 47) (by decide) (pf := 38) rfl (fun hc => ?_) (fun hc => ?_)
        · replace h := h.1 hc
          refine tt_iconst hV rfl (pc' := 48) rfl ?_
          refine tt_iadd hV rfl (pc' := 49) rfl ?_
          refine vtI (y := l2) (by clear h; omega) ?_
          refine tt_istore2 hV rfl rfl (pc' := 50) rfl ?_
          refine tt_iinc3 hV rfl rfl (pc' := 53) rfl ?_
          refine r_goto hV rfl (pc' := 4) (by decide) ?_
          exact h
        · replace h := h.2 (Decidable.not_not.mp hc)
          refine r_aload_n hV rfl rfl (pc' := 39) rfl ?_
          refine r_iload_n hV rfl rfl (pc' := 40) rfl ?_
          refine tt_iconst hV rfl (pc' := 41) rfl ?_
          obtain ⟨v41, m41, h, hr⟩ := h
          refine tt_cv2I hV rfl rfl rfl (Wd_obj (hB _ _ rfl)) (Nat.le_of_ble_eq_true rfl) (Nat.le_of_ble_eq_true rfl) rfl hr (pc' := 44) rfl ?_
          refine r_goto hV rfl (pc' := 48) (by decide) ?_
          refine tt_iadd hV rfl (pc' := 49) rfl ?_
          refine tt_istore2 hV rfl rfl (pc' := 50) rfl ?_
          refine tt_iinc3 hV rfl rfl (pc' := 53) rfl ?_
          refine r_goto hV rfl (pc' := 4) (by decide) ?_
          exact h
theorem M_sharesw {X : Cx} {d : Nat} {x : Int} {y : Int} {m : Mm} {Q : Int → Mm → Prop} (hB : Bsh X.2.2.1) (h : M_isMember X d x m (fun v2 m2 => (-2147483648 ≤ v2 ∧ v2 < 2147483648) ∧ (v2 = 0 → Q (-1) m2) ∧ (v2 ≠ 0 → M_in X d y 0 999 m2 (fun v13 m13 => (-2147483648 ≤ v13 ∧ v13 < 2147483648) ∧ (v13 ≠ 0 → M_isOn X d x m13 (fun v23 m23 => (-2147483648 ≤ v23 ∧ v23 < 2147483648) ∧ (v23 = 0 → Q 0 m23) ∧ (v23 ≠ 0 → M_of X d x 0 m23 (fun v33 m33 => M_weightOn X d (-1) m33 (fun v39 m39 => (-2147483648 ≤ v39 ∧ v39 < 2147483648 ∧ v39 ≠ 0) ∧ Q ((iDv ((y * v33)) v39)) m39))))) ∧ (v13 = 0 → Q (-1) m13))))) : M_shares X (d + 1) x y m Q := by
  unfold M_shares
  have hV : Clo (gP X.1 X.2.1) (d + 1) 279 3 false (Rq (gP X.1 X.2.1) (d + 1) 279 X.2.2.1 X.2.2.2 Q) := Rq_clo (q := mI279) rfl
  refine r_aload_n hV rfl rfl (pc' := 1) rfl ?_
  refine r_iload_n hV rfl rfl (pc' := 2) rfl ?_
  obtain ⟨v2, m2, h, hr⟩ := h
  refine tt_cv1I hV rfl rfl rfl (Wd_obj (hB _ _ rfl)) (Nat.le_of_ble_eq_true rfl) (Nat.le_of_ble_eq_true rfl) rfl hr (pc' := 5) rfl ?_
  obtain ⟨g1, h⟩ := h
  refine tt_if_eq hV rfl g1 (pt := 19) (by decide) (pf := 8) rfl (fun hc => ?_) (fun hc => ?_)
  · replace h := h.1 hc
    refine tt_iconst hV rfl (pc' := 20) rfl ?_
    exact rq_ret (q := mI279) rfl rfl rfl h
  · replace h := h.2 hc
    refine r_iload_n hV rfl rfl (pc' := 9) rfl ?_
    refine tt_iconst hV rfl (pc' := 10) rfl ?_
    refine tt_sipush hV rfl (by decide) (pc' := 13) rfl ?_
    obtain ⟨v13, m13, h, hr⟩ := h
    refine tt_cs3I hV rfl rfl rfl (Nat.le_of_ble_eq_true rfl) (Nat.le_of_ble_eq_true rfl) rfl hr (pc' := 16) rfl ?_
    obtain ⟨g2, h⟩ := h
    refine tt_if_ne hV rfl g2 (pt := 21) (by decide) (pf := 19) rfl (fun hc => ?_) (fun hc => ?_)
    · replace h := h.1 hc
      refine r_aload_n hV rfl rfl (pc' := 22) rfl ?_
      refine r_iload_n hV rfl rfl (pc' := 23) rfl ?_
      obtain ⟨v23, m23, h, hr⟩ := h
      refine tt_cv1I hV rfl rfl rfl (Wd_obj (hB _ _ rfl)) (Nat.le_of_ble_eq_true rfl) (Nat.le_of_ble_eq_true rfl) rfl hr (pc' := 26) rfl ?_
      obtain ⟨g3, h⟩ := h
      refine tt_if_eq hV rfl g3 (pt := 46) (by decide) (pf := 29) rfl (fun hc => ?_) (fun hc => ?_)
      · replace h := h.1 hc
        refine tt_iconst hV rfl (pc' := 47) rfl ?_
        exact rq_ret (q := mI279) rfl rfl rfl h
      · replace h := h.2 hc
        refine r_iload_n hV rfl rfl (pc' := 30) rfl ?_
        refine r_aload_n hV rfl rfl (pc' := 31) rfl ?_
        refine r_iload_n hV rfl rfl (pc' := 32) rfl ?_
        refine tt_iconst hV rfl (pc' := 33) rfl ?_
        obtain ⟨v33, m33, h, hr⟩ := h
        refine tt_cv2I hV rfl rfl rfl (Wd_obj (hB _ _ rfl)) (Nat.le_of_ble_eq_true rfl) (Nat.le_of_ble_eq_true rfl) rfl hr (pc' := 36) rfl ?_
        refine tt_imul hV rfl (pc' := 37) rfl ?_
        refine vtI (y := (y * v33)) (by clear h; omega) ?_
        refine r_aload_n hV rfl rfl (pc' := 38) rfl ?_
        refine tt_iconst hV rfl (pc' := 39) rfl ?_
        obtain ⟨v39, m39, h, hr⟩ := h
        refine tt_cv1I hV rfl rfl rfl (Wd_obj (hB _ _ rfl)) (Nat.le_of_ble_eq_true rfl) (Nat.le_of_ble_eq_true rfl) rfl hr (pc' := 42) rfl ?_
        obtain ⟨g4, h⟩ := h
        refine tt_idiv hV rfl g4 (pc' := 43) rfl ?_
        refine r_goto hV rfl (pc' := 47) (by decide) ?_
        exact rq_ret (q := mI279) rfl rfl rfl h
    · replace h := h.2 (Decidable.not_not.mp hc)
      refine tt_iconst hV rfl (pc' := 20) rfl ?_
      exact rq_ret (q := mI279) rfl rfl rfl h
theorem M_mostw {X : Cx} {d : Nat} {x : Int} {m : Mm} {Q : Int → Mm → Prop} (hB : Bsh X.2.2.1) (h : (-2147483648 ≤ (m 83 28) ∧ (m 83 28) < 2147483648) ∧ (m 83 28 = 0 → Q (-1) m) ∧ (m 83 28 ≠ 0 → M_in X d x 0 2 m (fun v10 m10 => (-2147483648 ≤ v10 ∧ v10 < 2147483648) ∧ (v10 ≠ 0 → M_most_25 X (d + 1) x (-1) 0 0 m10 Q) ∧ (v10 = 0 → Q (-1) m10)))) : M_most X (d + 1) x m Q := by
  unfold M_most
  have hV : Clo (gP X.1 X.2.1) (d + 1) 280 5 false (Rq (gP X.1 X.2.1) (d + 1) 280 X.2.2.1 X.2.2.2 Q) := Rq_clo (q := mI280) rfl
  refine r_aload_n hV rfl rfl (pc' := 1) rfl ?_
  refine tt_getI hV (tg := 0) (ci := 12) (kf := 28) rfl rfl (by decide) (hB _ _ rfl) rfl (by decide) (pc' := 4) rfl ?_
  obtain ⟨g1, h⟩ := h
  refine tt_if_eq hV rfl g1 (pt := 16) (by decide) (pf := 7) rfl (fun hc => ?_) (fun hc => ?_)
  · replace h := h.1 hc
    refine tt_iconst hV rfl (pc' := 17) rfl ?_
    exact rq_ret (q := mI280) rfl rfl rfl h
  · replace h := h.2 hc
    refine r_iload_n hV rfl rfl (pc' := 8) rfl ?_
    refine tt_iconst hV rfl (pc' := 9) rfl ?_
    refine tt_iconst hV rfl (pc' := 10) rfl ?_
    obtain ⟨v10, m10, h, hr⟩ := h
    refine tt_cs3I hV rfl rfl rfl (Nat.le_of_ble_eq_true rfl) (Nat.le_of_ble_eq_true rfl) rfl hr (pc' := 13) rfl ?_
    obtain ⟨g2, h⟩ := h
    refine tt_if_ne hV rfl g2 (pt := 18) (by decide) (pf := 16) rfl (fun hc => ?_) (fun hc => ?_)
    · replace h := h.1 hc
      refine tt_iconst hV rfl (pc' := 19) rfl ?_
      refine tt_istore2 hV rfl rfl (pc' := 20) rfl ?_
      refine tt_iconst hV rfl (pc' := 21) rfl ?_
      refine tt_istore3 hV rfl rfl (pc' := 22) rfl ?_
      refine tt_iconst hV rfl (pc' := 23) rfl ?_
      refine tt_istore4 hV rfl rfl (pc' := 25) rfl ?_
      exact h
    · replace h := h.2 (Decidable.not_not.mp hc)
      refine tt_iconst hV rfl (pc' := 17) rfl ?_
      exact rq_ret (q := mI280) rfl rfl rfl h
theorem M_most_25w {X : Cx} {d : Nat} {x : Int} {l2 : Int} {l3 : Int} {l4 : Int} {m : Mm} {Q : Int → Mm → Prop} (hB : Bsh X.2.2.1) (h : (-2147483648 ≤ l4 ∧ l4 < 2147483648) ∧ (-2147483648 ≤ (m 83 28) ∧ (m 83 28) < 2147483648) ∧ (m 83 28 ≤ l4 → M_weightOn X d 2 m (fun v103 m103 => M_weightOn X d 0 m103 (fun v108 m108 => (-2147483648 ≤ x ∧ x < 2147483648) ∧ (x ≠ 0 → (x ≠ 1 → (-2147483648 ≤ (v103 - v108) ∧ (v103 - v108) < 2147483648) ∧ (v103 - v108 ≤ 0 → (0 ≤ v103 - v108 → Q 1 m108) ∧ (v103 - v108 < 0 → Q 0 m108)) ∧ (0 < v103 - v108 → Q 2 m108)) ∧ (x = 1 → Q l3 m108)) ∧ (x = 0 → Q l2 m108)))) ∧ (l4 < m 83 28 → M_isOn X d l4 m (fun v37 m37 => (-2147483648 ≤ v37 ∧ v37 < 2147483648) ∧ (v37 = 0 → M_most_69 X (d + 1) x l2 l3 l4 m37 Q) ∧ (v37 ≠ 0 → (-2147483648 ≤ l2 ∧ l2 < 2147483648) ∧ (l2 = -1 → M_most_64 X (d + 1) x l2 l3 l4 m37 Q) ∧ (l2 ≠ -1 → M_of X d l4 0 m37 (fun v52 m52 => M_of X d l2 0 m52 (fun v58 m58 => (-2147483648 ≤ v52 ∧ v52 < 2147483648) ∧ (-2147483648 ≤ v58 ∧ v58 < 2147483648) ∧ (v52 ≤ v58 → M_most_69 X (d + 1) x l2 l3 l4 m58 Q) ∧ (v58 < v52 → M_most_64 X (d + 1) x l2 l3 l4 m58 Q)))))))) : M_most_25 X (d + 1) x l2 l3 l4 m Q := by
  unfold M_most_25
  have hV : Clo (gP X.1 X.2.1) (d + 1) 280 5 false (Rq (gP X.1 X.2.1) (d + 1) 280 X.2.2.1 X.2.2.2 Q) := Rq_clo (q := mI280) rfl
  refine r_iload hV rfl rfl (pc' := 27) rfl ?_
  refine r_aload_n hV rfl rfl (pc' := 28) rfl ?_
  refine tt_getI hV (tg := 0) (ci := 12) (kf := 28) rfl rfl (by decide) (hB _ _ rfl) rfl (by decide) (pc' := 31) rfl ?_
  obtain ⟨g3, h⟩ := h
  obtain ⟨g4, h⟩ := h
  refine tt_icmp_ge hV rfl g3 g4 (pt := 101) (by decide) (pf := 34) rfl (fun hc => ?_) (fun hc => ?_)
  · replace h := h.1 hc
    refine r_aload_n hV rfl rfl (pc' := 102) rfl ?_
    refine tt_iconst hV rfl (pc' := 103) rfl ?_
    obtain ⟨v103, m103, h, hr⟩ := h
    refine tt_cv1I hV rfl rfl rfl (Wd_obj (hB _ _ rfl)) (Nat.le_of_ble_eq_true rfl) (Nat.le_of_ble_eq_true rfl) rfl hr (pc' := 106) rfl ?_
    refine r_aload_n hV rfl rfl (pc' := 107) rfl ?_
    refine tt_iconst hV rfl (pc' := 108) rfl ?_
    obtain ⟨v108, m108, h, hr⟩ := h
    refine tt_cv1I hV rfl rfl rfl (Wd_obj (hB _ _ rfl)) (Nat.le_of_ble_eq_true rfl) (Nat.le_of_ble_eq_true rfl) rfl hr (pc' := 111) rfl ?_
    refine tt_isub hV rfl (pc' := 112) rfl ?_
    refine tt_istore4 hV rfl rfl (pc' := 114) rfl ?_
    refine r_iload_n hV rfl rfl (pc' := 115) rfl ?_
    obtain ⟨g5, h⟩ := h
    refine tt_if_ne hV rfl g5 (pt := 122) (by decide) (pf := 118) rfl (fun hc => ?_) (fun hc => ?_)
    · replace h := h.1 hc
      refine r_iload_n hV rfl rfl (pc' := 123) rfl ?_
      refine tt_iconst hV rfl (pc' := 124) rfl ?_
      refine tt_icmp_ne hV rfl g5 (by decide) (pt := 131) (by decide) (pf := 127) rfl (fun hc => ?_) (fun hc => ?_)
      · replace h := h.1 hc
        refine r_iload hV rfl rfl (pc' := 133) rfl ?_
        obtain ⟨g6, h⟩ := h
        refine tt_if_le hV rfl g6 (pt := 140) (by decide) (pf := 136) rfl (fun hc => ?_) (fun hc => ?_)
        · replace h := h.1 hc
          refine r_iload hV rfl rfl (pc' := 142) rfl ?_
          refine tt_if_ge hV rfl g6 (pt := 149) (by decide) (pf := 145) rfl (fun hc => ?_) (fun hc => ?_)
          · replace h := h.1 hc
            refine tt_iconst hV rfl (pc' := 150) rfl ?_
            exact rq_ret (q := mI280) rfl rfl rfl h
          · replace h := h.2 (Int.not_le.mp hc)
            refine tt_iconst hV rfl (pc' := 146) rfl ?_
            refine r_goto hV rfl (pc' := 150) (by decide) ?_
            exact rq_ret (q := mI280) rfl rfl rfl h
        · replace h := h.2 (Int.not_le.mp hc)
          refine tt_iconst hV rfl (pc' := 137) rfl ?_
          refine r_goto hV rfl (pc' := 150) (by decide) ?_
          exact rq_ret (q := mI280) rfl rfl rfl h
      · replace h := h.2 (Decidable.not_not.mp hc)
        refine r_iload_n hV rfl rfl (pc' := 128) rfl ?_
        refine r_goto hV rfl (pc' := 150) (by decide) ?_
        exact rq_ret (q := mI280) rfl rfl rfl h
    · replace h := h.2 (Decidable.not_not.mp hc)
      refine r_iload_n hV rfl rfl (pc' := 119) rfl ?_
      refine r_goto hV rfl (pc' := 150) (by decide) ?_
      exact rq_ret (q := mI280) rfl rfl rfl h
  · replace h := h.2 (Int.not_le.mp hc)
    refine r_aload_n hV rfl rfl (pc' := 35) rfl ?_
    refine r_iload hV rfl rfl (pc' := 37) rfl ?_
    obtain ⟨v37, m37, h, hr⟩ := h
    refine tt_cv1I hV rfl rfl rfl (Wd_obj (hB _ _ rfl)) (Nat.le_of_ble_eq_true rfl) (Nat.le_of_ble_eq_true rfl) rfl hr (pc' := 40) rfl ?_
    obtain ⟨g7, h⟩ := h
    refine tt_if_eq hV rfl g7 (pt := 69) (by decide) (pf := 43) rfl (fun hc => ?_) (fun hc => ?_)
    · replace h := h.1 hc
      exact h
    · replace h := h.2 hc
      refine r_iload_n hV rfl rfl (pc' := 44) rfl ?_
      refine tt_iconst hV rfl (pc' := 45) rfl ?_
      obtain ⟨g8, h⟩ := h
      refine tt_icmp_eq hV rfl g8 (by decide) (pt := 64) (by decide) (pf := 48) rfl (fun hc => ?_) (fun hc => ?_)
      · replace h := h.1 hc
        exact h
      · replace h := h.2 hc
        refine r_aload_n hV rfl rfl (pc' := 49) rfl ?_
        refine r_iload hV rfl rfl (pc' := 51) rfl ?_
        refine tt_iconst hV rfl (pc' := 52) rfl ?_
        obtain ⟨v52, m52, h, hr⟩ := h
        refine tt_cv2I hV rfl rfl rfl (Wd_obj (hB _ _ rfl)) (Nat.le_of_ble_eq_true rfl) (Nat.le_of_ble_eq_true rfl) rfl hr (pc' := 55) rfl ?_
        refine r_aload_n hV rfl rfl (pc' := 56) rfl ?_
        refine r_iload_n hV rfl rfl (pc' := 57) rfl ?_
        refine tt_iconst hV rfl (pc' := 58) rfl ?_
        obtain ⟨v58, m58, h, hr⟩ := h
        refine tt_cv2I hV rfl rfl rfl (Wd_obj (hB _ _ rfl)) (Nat.le_of_ble_eq_true rfl) (Nat.le_of_ble_eq_true rfl) rfl hr (pc' := 61) rfl ?_
        obtain ⟨g9, h⟩ := h
        obtain ⟨g10, h⟩ := h
        refine tt_icmp_le hV rfl g9 g10 (pt := 69) (by decide) (pf := 64) rfl (fun hc => ?_) (fun hc => ?_)
        · replace h := h.1 hc
          exact h
        · replace h := h.2 (Int.not_le.mp hc)
          exact h
theorem M_most_64w {X : Cx} {d : Nat} {x : Int} {l2 : Int} {l3 : Int} {l4 : Int} {m : Mm} {Q : Int → Mm → Prop} (hB : Bsh X.2.2.1) (h : (0 ≤ l4 ∧ l4 < 205) ∧ (-2147483648 ≤ (m 101 l4) ∧ (m 101 l4) < 2147483648) ∧ (m 101 l4 ≠ 1 → M_most_25 X (d + 1) x l4 ((iO l3 0)) (l4 + 1) m Q) ∧ (m 101 l4 = 1 → M_most_25 X (d + 1) x l4 ((iO l3 ((iSl 1 l4)))) (l4 + 1) m Q)) : M_most_64 X (d + 1) x l2 l3 l4 m Q := by
  unfold M_most_64
  have hV : Clo (gP X.1 X.2.1) (d + 1) 280 5 false (Rq (gP X.1 X.2.1) (d + 1) 280 X.2.2.1 X.2.2.2 Q) := Rq_clo (q := mI280) rfl
  refine r_iload hV rfl rfl (pc' := 66) rfl ?_
  refine r_goto hV rfl (pc' := 70) (by decide) ?_
  refine tt_istore2 hV rfl rfl (pc' := 71) rfl ?_
  refine r_iload_n hV rfl rfl (pc' := 72) rfl ?_
  refine r_aload_n hV rfl rfl (pc' := 73) rfl ?_
  refine tt_getR hV (tg := 6) (ci := 12) (kf := 30) rfl rfl (by decide) (hB _ _ rfl) rfl (by decide) (pc' := 76) rfl ?_
  refine tt_iconst hV rfl (pc' := 77) rfl ?_
  refine r_iload hV rfl rfl (pc' := 79) rfl ?_
  refine tt_iadd hV rfl (pc' := 80) rfl ?_
  refine vtI (y := l4) (by clear h; omega) ?_
  obtain ⟨g11, h⟩ := h
  refine q_iald hV rfl (hB _ _ rfl) (Nat.le_of_ble_eq_true rfl) rfl g11 (pc' := 81) rfl ?_
  refine tt_iconst hV rfl (pc' := 82) rfl ?_
  obtain ⟨g12, h⟩ := h
  refine tt_icmp_ne hV rfl g12 (by decide) (pt := 92) (by decide) (pf := 85) rfl (fun hc => ?_) (fun hc => ?_)
  · replace h := h.1 hc
    refine tt_iconst hV rfl (pc' := 93) rfl ?_
    refine tt_ior hV rfl (pc' := 94) rfl ?_
    refine tt_istore3 hV rfl rfl (pc' := 95) rfl ?_
    refine tt_iinc4 hV rfl rfl (pc' := 98) rfl ?_
    refine r_goto hV rfl (pc' := 25) (by decide) ?_
    exact h
  · replace h := h.2 (Decidable.not_not.mp hc)
    refine tt_iconst hV rfl (pc' := 86) rfl ?_
    refine r_iload hV rfl rfl (pc' := 88) rfl ?_
    refine tt_ishl hV rfl (pc' := 89) rfl ?_
    refine r_goto hV rfl (pc' := 93) (by decide) ?_
    refine tt_ior hV rfl (pc' := 94) rfl ?_
    refine tt_istore3 hV rfl rfl (pc' := 95) rfl ?_
    refine tt_iinc4 hV rfl rfl (pc' := 98) rfl ?_
    refine r_goto hV rfl (pc' := 25) (by decide) ?_
    exact h
theorem M_most_69w {X : Cx} {d : Nat} {x : Int} {l2 : Int} {l3 : Int} {l4 : Int} {m : Mm} {Q : Int → Mm → Prop} (hB : Bsh X.2.2.1) (h : (0 ≤ l4 ∧ l4 < 205) ∧ (-2147483648 ≤ (m 101 l4) ∧ (m 101 l4) < 2147483648) ∧ (m 101 l4 ≠ 1 → M_most_25 X (d + 1) x l2 ((iO l3 0)) (l4 + 1) m Q) ∧ (m 101 l4 = 1 → M_most_25 X (d + 1) x l2 ((iO l3 ((iSl 1 l4)))) (l4 + 1) m Q)) : M_most_69 X (d + 1) x l2 l3 l4 m Q := by
  unfold M_most_69
  have hV : Clo (gP X.1 X.2.1) (d + 1) 280 5 false (Rq (gP X.1 X.2.1) (d + 1) 280 X.2.2.1 X.2.2.2 Q) := Rq_clo (q := mI280) rfl
  refine r_iload_n hV rfl rfl (pc' := 70) rfl ?_
  refine tt_istore2 hV rfl rfl (pc' := 71) rfl ?_
  refine r_iload_n hV rfl rfl (pc' := 72) rfl ?_
  refine r_aload_n hV rfl rfl (pc' := 73) rfl ?_
  refine tt_getR hV (tg := 6) (ci := 12) (kf := 30) rfl rfl (by decide) (hB _ _ rfl) rfl (by decide) (pc' := 76) rfl ?_
  refine tt_iconst hV rfl (pc' := 77) rfl ?_
  refine r_iload hV rfl rfl (pc' := 79) rfl ?_
  refine tt_iadd hV rfl (pc' := 80) rfl ?_
  refine vtI (y := l4) (by clear h; omega) ?_
  obtain ⟨g13, h⟩ := h
  refine q_iald hV rfl (hB _ _ rfl) (Nat.le_of_ble_eq_true rfl) rfl g13 (pc' := 81) rfl ?_
  refine tt_iconst hV rfl (pc' := 82) rfl ?_
  obtain ⟨g14, h⟩ := h
  refine tt_icmp_ne hV rfl g14 (by decide) (pt := 92) (by decide) (pf := 85) rfl (fun hc => ?_) (fun hc => ?_)
  · replace h := h.1 hc
    refine tt_iconst hV rfl (pc' := 93) rfl ?_
    refine tt_ior hV rfl (pc' := 94) rfl ?_
    refine tt_istore3 hV rfl rfl (pc' := 95) rfl ?_
    refine tt_iinc4 hV rfl rfl (pc' := 98) rfl ?_
    refine r_goto hV rfl (pc' := 25) (by decide) ?_
    exact h
  · replace h := h.2 (Decidable.not_not.mp hc)
    refine tt_iconst hV rfl (pc' := 86) rfl ?_
    refine r_iload hV rfl rfl (pc' := 88) rfl ?_
    refine tt_ishl hV rfl (pc' := 89) rfl ?_
    refine r_goto hV rfl (pc' := 93) (by decide) ?_
    refine tt_ior hV rfl (pc' := 94) rfl ?_
    refine tt_istore3 hV rfl rfl (pc' := 95) rfl ?_
    refine tt_iinc4 hV rfl rfl (pc' := 98) rfl ?_
    refine r_goto hV rfl (pc' := 25) (by decide) ?_
    exact h
theorem M_staysw {X : Cx} {d : Nat} {x : Int} {m : Mm} {Q : Int → Mm → Prop} (hB : Bsh X.2.2.1) (h : M_isMember X d x m (fun v2 m2 => (-2147483648 ≤ v2 ∧ v2 < 2147483648) ∧ (v2 = 0 → Q (-1) m2) ∧ (v2 ≠ 0 → M_isOn X d x m2 (fun v10 m10 => (-2147483648 ≤ v10 ∧ v10 < 2147483648) ∧ (v10 ≠ 0 → M_stays_20 X (d + 1) x 0 m10 Q) ∧ (v10 = 0 → Q (-1) m10))))) : M_stays X (d + 1) x m Q := by
  unfold M_stays
  have hV : Clo (gP X.1 X.2.1) (d + 1) 281 3 false (Rq (gP X.1 X.2.1) (d + 1) 281 X.2.2.1 X.2.2.2 Q) := Rq_clo (q := mI281) rfl
  refine r_aload_n hV rfl rfl (pc' := 1) rfl ?_
  refine r_iload_n hV rfl rfl (pc' := 2) rfl ?_
  obtain ⟨v2, m2, h, hr⟩ := h
  refine tt_cv1I hV rfl rfl rfl (Wd_obj (hB _ _ rfl)) (Nat.le_of_ble_eq_true rfl) (Nat.le_of_ble_eq_true rfl) rfl hr (pc' := 5) rfl ?_
  obtain ⟨g1, h⟩ := h
  refine tt_if_eq hV rfl g1 (pt := 16) (by decide) (pf := 8) rfl (fun hc => ?_) (fun hc => ?_)
  · replace h := h.1 hc
    refine tt_iconst hV rfl (pc' := 17) rfl ?_
    exact rq_ret (q := mI281) rfl rfl rfl h
  · replace h := h.2 hc
    refine r_aload_n hV rfl rfl (pc' := 9) rfl ?_
    refine r_iload_n hV rfl rfl (pc' := 10) rfl ?_
    obtain ⟨v10, m10, h, hr⟩ := h
    refine tt_cv1I hV rfl rfl rfl (Wd_obj (hB _ _ rfl)) (Nat.le_of_ble_eq_true rfl) (Nat.le_of_ble_eq_true rfl) rfl hr (pc' := 13) rfl ?_
    obtain ⟨g2, h⟩ := h
    refine tt_if_ne hV rfl g2 (pt := 18) (by decide) (pf := 16) rfl (fun hc => ?_) (fun hc => ?_)
    · replace h := h.1 hc
      refine tt_iconst hV rfl (pc' := 19) rfl ?_
      refine tt_istore2 hV rfl rfl (pc' := 20) rfl ?_
      exact h
    · replace h := h.2 (Decidable.not_not.mp hc)
      refine tt_iconst hV rfl (pc' := 17) rfl ?_
      exact rq_ret (q := mI281) rfl rfl rfl h
theorem M_stays_20w {X : Cx} {d : Nat} {x : Int} {l2 : Int} {m : Mm} {Q : Int → Mm → Prop} (hB : Bsh X.2.2.1) (h : (-2147483648 ≤ l2 ∧ l2 < 2147483648) ∧ (9 < l2 → Q (-1) m) ∧ (l2 ≤ 9 → M_putAside X d m (fun m27 => (0 ≤ x + 6 ∧ x + 6 < 205) ∧ M_layEnd X d (up m27 101 (x + 6) l2) (fun m41 => M_has X d (m41 83 40) x m41 (fun v49 m49 => (-2147483648 ≤ v49 ∧ v49 < 2147483648) ∧ (v49 ≠ 0 → M_stays_20 X (d + 1) x (l2 + 1) m49 Q) ∧ (v49 = 0 → Q l2 m49)))))) : M_stays_20 X (d + 1) x l2 m Q := by
  unfold M_stays_20
  have hV : Clo (gP X.1 X.2.1) (d + 1) 281 3 false (Rq (gP X.1 X.2.1) (d + 1) 281 X.2.2.1 X.2.2.2 Q) := Rq_clo (q := mI281) rfl
  refine r_iload_n hV rfl rfl (pc' := 21) rfl ?_
  refine tt_bipush hV rfl (by decide) (pc' := 23) rfl ?_
  obtain ⟨g3, h⟩ := h
  refine tt_icmp_gt hV rfl g3 (by decide) (pt := 63) (by decide) (pf := 26) rfl (fun hc => ?_) (fun hc => ?_)
  · replace h := h.1 hc
    refine tt_iconst hV rfl (pc' := 64) rfl ?_
    exact rq_ret (q := mI281) rfl rfl rfl h
  · replace h := h.2 (Int.not_lt.mp hc)
    refine r_aload_n hV rfl rfl (pc' := 27) rfl ?_
    obtain ⟨m27, h, hr⟩ := h
    refine tt_cv0U hV rfl rfl rfl (Wd_obj (hB _ _ rfl)) (Nat.le_of_ble_eq_true rfl) (Nat.le_of_ble_eq_true rfl) rfl hr (pc' := 30) rfl ?_
    refine r_aload_n hV rfl rfl (pc' := 31) rfl ?_
    refine tt_getR hV (tg := 6) (ci := 12) (kf := 30) rfl rfl (by decide) (hB _ _ rfl) rfl (by decide) (pc' := 34) rfl ?_
    refine tt_bipush hV rfl (by decide) (pc' := 36) rfl ?_
    refine r_iload_n hV rfl rfl (pc' := 37) rfl ?_
    refine tt_iadd hV rfl (pc' := 38) rfl ?_
    refine vtI (y := x + 6) (by clear h; omega) ?_
    refine r_iload_n hV rfl rfl (pc' := 39) rfl ?_
    obtain ⟨g4, h⟩ := h
    refine q_iast hV rfl (hB _ _ rfl) (Nat.le_of_ble_eq_true rfl) rfl g4 (pc' := 40) rfl ?_
    refine r_aload_n hV rfl rfl (pc' := 41) rfl ?_
    obtain ⟨m41, h, hr⟩ := h
    refine tt_cv0U hV rfl rfl rfl (Wd_obj (hB _ _ rfl)) (Nat.le_of_ble_eq_true rfl) (Nat.le_of_ble_eq_true rfl) rfl hr (pc' := 44) rfl ?_
    refine r_aload_n hV rfl rfl (pc' := 45) rfl ?_
    refine tt_getI hV (tg := 0) (ci := 12) (kf := 40) rfl rfl (by decide) (hB _ _ rfl) rfl (by decide) (pc' := 48) rfl ?_
    refine r_iload_n hV rfl rfl (pc' := 49) rfl ?_
    obtain ⟨v49, m49, h, hr⟩ := h
    refine tt_cs2I hV rfl rfl rfl (Nat.le_of_ble_eq_true rfl) (Nat.le_of_ble_eq_true rfl) rfl hr (pc' := 52) rfl ?_
    obtain ⟨g5, h⟩ := h
    refine tt_if_ne hV rfl g5 (pt := 57) (by decide) (pf := 55) rfl (fun hc => ?_) (fun hc => ?_)
    · replace h := h.1 hc
      refine tt_iinc2 hV rfl rfl (pc' := 60) rfl ?_
      refine r_goto hV rfl (pc' := 20) (by decide) ?_
      exact h
    · replace h := h.2 (Decidable.not_not.mp hc)
      refine r_iload_n hV rfl rfl (pc' := 56) rfl ?_
      exact rq_ret (q := mI281) rfl rfl rfl h
theorem M_metw {X : Cx} {d : Nat} {m : Mm} {Q : Int → Mm → Prop} (hB : Bsh X.2.2.1) (h : (-2147483648 ≤ (m 83 28) ∧ (m 83 28) < 2147483648) ∧ (m 83 28 ≠ 0 → M_putAside X d m (fun m10 => M_layEnd X d m10 (fun m14 => Q (m14 83 34) m14))) ∧ (m 83 28 = 0 → Q (-1) m)) : M_met X (d + 1) m Q := by
  unfold M_met
  have hV : Clo (gP X.1 X.2.1) (d + 1) 282 1 false (Rq (gP X.1 X.2.1) (d + 1) 282 X.2.2.1 X.2.2.2 Q) := Rq_clo (q := mI282) rfl
  refine r_aload_n hV rfl rfl (pc' := 1) rfl ?_
  refine tt_getI hV (tg := 0) (ci := 12) (kf := 28) rfl rfl (by decide) (hB _ _ rfl) rfl (by decide) (pc' := 4) rfl ?_
  obtain ⟨g1, h⟩ := h
  refine tt_if_ne hV rfl g1 (pt := 9) (by decide) (pf := 7) rfl (fun hc => ?_) (fun hc => ?_)
  · replace h := h.1 hc
    refine r_aload_n hV rfl rfl (pc' := 10) rfl ?_
    obtain ⟨m10, h, hr⟩ := h
    refine tt_cv0U hV rfl rfl rfl (Wd_obj (hB _ _ rfl)) (Nat.le_of_ble_eq_true rfl) (Nat.le_of_ble_eq_true rfl) rfl hr (pc' := 13) rfl ?_
    refine r_aload_n hV rfl rfl (pc' := 14) rfl ?_
    obtain ⟨m14, h, hr⟩ := h
    refine tt_cv0U hV rfl rfl rfl (Wd_obj (hB _ _ rfl)) (Nat.le_of_ble_eq_true rfl) (Nat.le_of_ble_eq_true rfl) rfl hr (pc' := 17) rfl ?_
    refine r_aload_n hV rfl rfl (pc' := 18) rfl ?_
    refine tt_getI hV (tg := 0) (ci := 12) (kf := 34) rfl rfl (by decide) (hB _ _ rfl) rfl (by decide) (pc' := 21) rfl ?_
    exact rq_ret (q := mI282) rfl rfl rfl h
  · replace h := h.2 (Decidable.not_not.mp hc)
    refine tt_iconst hV rfl (pc' := 8) rfl ?_
    exact rq_ret (q := mI282) rfl rfl rfl h
theorem M_sumw {X : Cx} {d : Nat} {m : Mm} {Q : Int → Mm → Prop} (hB : Bsh X.2.2.1) (h : (-2147483648 ≤ (m 83 28) ∧ (m 83 28) < 2147483648) ∧ (m 83 28 ≠ 0 → M_sumNow X d m (fun v14 m14 => Q v14 m14)) ∧ (m 83 28 = 0 → Q (-1000000) m)) : M_sum X (d + 1) m Q := by
  unfold M_sum
  have hV : Clo (gP X.1 X.2.1) (d + 1) 283 1 false (Rq (gP X.1 X.2.1) (d + 1) 283 X.2.2.1 X.2.2.2 Q) := Rq_clo (q := mI283) rfl
  refine r_aload_n hV rfl rfl (pc' := 1) rfl ?_
  refine tt_getI hV (tg := 0) (ci := 12) (kf := 28) rfl rfl (by decide) (hB _ _ rfl) rfl (by decide) (pc' := 4) rfl ?_
  obtain ⟨g1, h⟩ := h
  refine tt_if_ne hV rfl g1 (pt := 13) (by decide) (pf := 7) rfl (fun hc => ?_) (fun hc => ?_)
  · replace h := h.1 hc
    refine r_aload_n hV rfl rfl (pc' := 14) rfl ?_
    obtain ⟨v14, m14, h, hr⟩ := h
    refine tt_cv0I hV rfl rfl rfl (Wd_obj (hB _ _ rfl)) (Nat.le_of_ble_eq_true rfl) (Nat.le_of_ble_eq_true rfl) rfl hr (pc' := 17) rfl ?_
    exact rq_ret (q := mI283) rfl rfl rfl h
  · replace h := h.2 (Decidable.not_not.mp hc)
    refine v_ldcw hV (Int32.ofInt (-1000000)) rfl rfl rfl (pc' := 10) rfl ?_
    refine r_goto hV rfl (pc' := 17) (by decide) ?_
    exact rq_ret (q := mI283) rfl rfl rfl h
theorem M_imagew {X : Cx} {d : Nat} {m : Mm} {Q : Int → Mm → Prop} (hB : Bsh X.2.2.1) (h : (-2147483648 ≤ (m 83 28) ∧ (m 83 28) < 2147483648) ∧ (m 83 28 ≠ 0 → M_image_11 X d 0 m Q) ∧ (m 83 28 = 0 → Q (-1) m)) : M_image X d m Q := by
  unfold M_image
  have hV : Clo (gP X.1 X.2.1) d 284 2 false (Rq (gP X.1 X.2.1) d 284 X.2.2.1 X.2.2.2 Q) := Rq_clo (q := mI284) rfl
  refine r_aload_n hV rfl rfl (pc' := 1) rfl ?_
  refine tt_getI hV (tg := 0) (ci := 12) (kf := 28) rfl rfl (by decide) (hB _ _ rfl) rfl (by decide) (pc' := 4) rfl ?_
  obtain ⟨g1, h⟩ := h
  refine tt_if_ne hV rfl g1 (pt := 9) (by decide) (pf := 7) rfl (fun hc => ?_) (fun hc => ?_)
  · replace h := h.1 hc
    refine tt_iconst hV rfl (pc' := 10) rfl ?_
    refine tt_istore1 hV rfl rfl (pc' := 11) rfl ?_
    exact h
  · replace h := h.2 (Decidable.not_not.mp hc)
    refine tt_iconst hV rfl (pc' := 8) rfl ?_
    exact rq_ret (q := mI284) rfl rfl rfl h
theorem M_image_11w {X : Cx} {d : Nat} {l1 : Int} {m : Mm} {Q : Int → Mm → Prop} (hB : Bsh X.2.2.1) (h : (-2147483648 ≤ l1 ∧ l1 < 2147483648) ∧ (205 ≤ l1 → Q (m 101 21) (up m 83 52 1)) ∧ (l1 < 205 → (0 ≤ l1 ∧ l1 < 205) ∧ M_image_11 X d (l1 + 1) (up m 112 l1 (m 101 l1)) Q)) : M_image_11 X d l1 m Q := by
  unfold M_image_11
  have hV : Clo (gP X.1 X.2.1) d 284 2 false (Rq (gP X.1 X.2.1) d 284 X.2.2.1 X.2.2.2 Q) := Rq_clo (q := mI284) rfl
  refine r_iload_n hV rfl rfl (pc' := 12) rfl ?_
  refine tt_sipush hV rfl (by decide) (pc' := 15) rfl ?_
  obtain ⟨g2, h⟩ := h
  refine tt_icmp_ge hV rfl g2 (by decide) (pt := 36) (by decide) (pf := 18) rfl (fun hc => ?_) (fun hc => ?_)
  · replace h := h.1 hc
    refine r_aload_n hV rfl rfl (pc' := 37) rfl ?_
    refine tt_iconst hV rfl (pc' := 38) rfl ?_
    refine tt_putZ hV (tg := 0) (ci := 12) (kf := 52) rfl rfl (Or.inl rfl) (hB _ _ rfl) rfl (by decide) rfl (by decide) (pc' := 41) rfl ?_
    refine r_aload_n hV rfl rfl (pc' := 42) rfl ?_
    refine tt_getR hV (tg := 6) (ci := 12) (kf := 30) rfl rfl (by decide) (hB _ _ rfl) rfl (by decide) (pc' := 45) rfl ?_
    refine tt_bipush hV rfl (by decide) (pc' := 47) rfl ?_
    refine q_iald hV rfl (hB _ _ rfl) (Nat.le_of_ble_eq_true rfl) rfl (by decide) (pc' := 48) rfl ?_
    refine vtI (y := m 101 21) (up_ne (Or.inl (by decide))) ?_
    exact rq_ret (q := mI284) rfl rfl rfl h
  · replace h := h.2 (Int.not_le.mp hc)
    refine r_aload_n hV rfl rfl (pc' := 19) rfl ?_
    refine tt_getR hV (tg := 6) (ci := 12) (kf := 51) rfl rfl (by decide) (hB _ _ rfl) rfl (by decide) (pc' := 22) rfl ?_
    refine r_iload_n hV rfl rfl (pc' := 23) rfl ?_
    refine r_aload_n hV rfl rfl (pc' := 24) rfl ?_
    refine tt_getR hV (tg := 6) (ci := 12) (kf := 30) rfl rfl (by decide) (hB _ _ rfl) rfl (by decide) (pc' := 27) rfl ?_
    refine r_iload_n hV rfl rfl (pc' := 28) rfl ?_
    obtain ⟨g3, h⟩ := h
    refine q_iald hV rfl (hB _ _ rfl) (Nat.le_of_ble_eq_true rfl) rfl g3 (pc' := 29) rfl ?_
    refine q_iast hV rfl (hB _ _ rfl) (Nat.le_of_ble_eq_true rfl) rfl g3 (pc' := 30) rfl ?_
    refine tt_iinc1 hV rfl rfl (pc' := 33) rfl ?_
    refine r_goto hV rfl (pc' := 11) (by decide) ?_
    exact h
theorem M_backw {X : Cx} {d : Nat} {m : Mm} {Q : Int → Mm → Prop} (hB : Bsh X.2.2.1) (h : (-2147483648 ≤ (m 83 52) ∧ (m 83 52) < 2147483648) ∧ (m 83 52 ≠ 0 → M_back_11 X d 0 m Q) ∧ (m 83 52 = 0 → Q (-1) m)) : M_back X d m Q := by
  unfold M_back
  have hV : Clo (gP X.1 X.2.1) d 285 2 false (Rq (gP X.1 X.2.1) d 285 X.2.2.1 X.2.2.2 Q) := Rq_clo (q := mI285) rfl
  refine r_aload_n hV rfl rfl (pc' := 1) rfl ?_
  refine tt_getI hV (tg := 0) (ci := 12) (kf := 52) rfl rfl (by decide) (hB _ _ rfl) rfl (by decide) (pc' := 4) rfl ?_
  obtain ⟨g1, h⟩ := h
  refine tt_if_ne hV rfl g1 (pt := 9) (by decide) (pf := 7) rfl (fun hc => ?_) (fun hc => ?_)
  · replace h := h.1 hc
    refine tt_iconst hV rfl (pc' := 10) rfl ?_
    refine tt_istore1 hV rfl rfl (pc' := 11) rfl ?_
    exact h
  · replace h := h.2 (Decidable.not_not.mp hc)
    refine tt_iconst hV rfl (pc' := 8) rfl ?_
    exact rq_ret (q := mI285) rfl rfl rfl h
theorem M_back_11w {X : Cx} {d : Nat} {l1 : Int} {m : Mm} {Q : Int → Mm → Prop} (hB : Bsh X.2.2.1) (h : (-2147483648 ≤ l1 ∧ l1 < 2147483648) ∧ (205 ≤ l1 → Q (m 101 21) (up m 83 36 0)) ∧ (l1 < 205 → (0 ≤ l1 ∧ l1 < 205) ∧ M_back_11 X d (l1 + 1) (up m 101 l1 (m 112 l1)) Q)) : M_back_11 X d l1 m Q := by
  unfold M_back_11
  have hV : Clo (gP X.1 X.2.1) d 285 2 false (Rq (gP X.1 X.2.1) d 285 X.2.2.1 X.2.2.2 Q) := Rq_clo (q := mI285) rfl
  refine r_iload_n hV rfl rfl (pc' := 12) rfl ?_
  refine tt_sipush hV rfl (by decide) (pc' := 15) rfl ?_
  obtain ⟨g2, h⟩ := h
  refine tt_icmp_ge hV rfl g2 (by decide) (pt := 36) (by decide) (pf := 18) rfl (fun hc => ?_) (fun hc => ?_)
  · replace h := h.1 hc
    refine r_aload_n hV rfl rfl (pc' := 37) rfl ?_
    refine tt_iconst hV rfl (pc' := 38) rfl ?_
    refine tt_putI hV (tg := 0) (ci := 12) (kf := 36) rfl rfl (Or.inl rfl) (hB _ _ rfl) rfl (by decide) rfl (pc' := 41) rfl ?_
    refine r_aload_n hV rfl rfl (pc' := 42) rfl ?_
    refine tt_getR hV (tg := 6) (ci := 12) (kf := 30) rfl rfl (by decide) (hB _ _ rfl) rfl (by decide) (pc' := 45) rfl ?_
    refine tt_bipush hV rfl (by decide) (pc' := 47) rfl ?_
    refine q_iald hV rfl (hB _ _ rfl) (Nat.le_of_ble_eq_true rfl) rfl (by decide) (pc' := 48) rfl ?_
    refine vtI (y := m 101 21) (up_ne (Or.inl (by decide))) ?_
    exact rq_ret (q := mI285) rfl rfl rfl h
  · replace h := h.2 (Int.not_le.mp hc)
    refine r_aload_n hV rfl rfl (pc' := 19) rfl ?_
    refine tt_getR hV (tg := 6) (ci := 12) (kf := 30) rfl rfl (by decide) (hB _ _ rfl) rfl (by decide) (pc' := 22) rfl ?_
    refine r_iload_n hV rfl rfl (pc' := 23) rfl ?_
    refine r_aload_n hV rfl rfl (pc' := 24) rfl ?_
    refine tt_getR hV (tg := 6) (ci := 12) (kf := 51) rfl rfl (by decide) (hB _ _ rfl) rfl (by decide) (pc' := 27) rfl ?_
    refine r_iload_n hV rfl rfl (pc' := 28) rfl ?_
    obtain ⟨g3, h⟩ := h
    refine q_iald hV rfl (hB _ _ rfl) (Nat.le_of_ble_eq_true rfl) rfl g3 (pc' := 29) rfl ?_
    refine q_iast hV rfl (hB _ _ rfl) (Nat.le_of_ble_eq_true rfl) rfl g3 (pc' := 30) rfl ?_
    refine tt_iinc1 hV rfl rfl (pc' := 33) rfl ?_
    refine r_goto hV rfl (pc' := 11) (by decide) ?_
    exact h
theorem M_countw {X : Cx} {d : Nat} {x : Int} {m : Mm} {Q : Int → Mm → Prop} (hB : Bsh X.2.2.1) (h : (-2147483648 ≤ x ∧ x < 2147483648) ∧ (x = 0 → Q (m 83 28) m) ∧ (x = 1 → Q (m 83 27) m) ∧ (x = 2 → Q (m 83 13) m) ∧ (x = 3 → Q (m 83 2) m) ∧ (x = 4 → Q (m 83 32) m) ∧ (x = 5 → Q (m 101 21) m) ∧ (x = 6 → Q (m 101 22) m) ∧ (x = 7 → M_everybody X d m (fun v114 m114 => Q ((iA v114 ((iX (m114 101 18) (-1))))) m114)) ∧ (x = 8 → Q (m 101 23) m) ∧ (x = 9 → Q (m 83 33) m) ∧ (x = 10 → Q (m 83 48) m) ∧ (x = 11 → Q (m 83 29) m) ∧ (x = 12 → Q (m 101 24) m) ∧ (x = 13 → Q (m 83 36) m) ∧ (x ≠ 0 ∧ x ≠ 1 ∧ x ≠ 2 ∧ x ≠ 3 ∧ x ≠ 4 ∧ x ≠ 5 ∧ x ≠ 6 ∧ x ≠ 7 ∧ x ≠ 8 ∧ x ≠ 9 ∧ x ≠ 10 ∧ x ≠ 11 ∧ x ≠ 12 ∧ x ≠ 13 → Q (-1000000) m)) : M_count X (d + 1) x m Q := by
  unfold M_count
  have hV : Clo (gP X.1 X.2.1) (d + 1) 286 2 false (Rq (gP X.1 X.2.1) (d + 1) 286 X.2.2.1 X.2.2.2 Q) := Rq_clo (q := mI286) rfl
  refine r_iload_n hV rfl rfl (pc' := 1) rfl ?_
  obtain ⟨g1, h⟩ := h
  by_cases hc : x = 0
  · replace h := h.1 hc
    refine r_sw hV (pc' := 72) rfl (by decide) (by rw [hc]; rfl) ?_
    refine r_aload_n hV rfl rfl (pc' := 73) rfl ?_
    refine tt_getI hV (tg := 0) (ci := 12) (kf := 28) rfl rfl (by decide) (hB _ _ rfl) rfl (by decide) (pc' := 76) rfl ?_
    exact rq_ret (q := mI286) rfl rfl rfl h
  have hc2_0 := hc
  clear hc
  by_cases hc : x = 1
  · replace h := h.2.1 hc
    refine r_sw hV (pc' := 77) rfl (by decide) (by rw [hc]; rfl) ?_
    refine r_aload_n hV rfl rfl (pc' := 78) rfl ?_
    refine tt_getI hV (tg := 0) (ci := 12) (kf := 27) rfl rfl (by decide) (hB _ _ rfl) rfl (by decide) (pc' := 81) rfl ?_
    exact rq_ret (q := mI286) rfl rfl rfl h
  have hc2_1 := hc
  clear hc
  by_cases hc : x = 2
  · replace h := h.2.2.1 hc
    refine r_sw hV (pc' := 82) rfl (by decide) (by rw [hc]; rfl) ?_
    refine r_aload_n hV rfl rfl (pc' := 83) rfl ?_
    refine tt_getI hV (tg := 0) (ci := 12) (kf := 13) rfl rfl (by decide) (hB _ _ rfl) rfl (by decide) (pc' := 86) rfl ?_
    exact rq_ret (q := mI286) rfl rfl rfl h
  have hc2_2 := hc
  clear hc
  by_cases hc : x = 3
  · replace h := h.2.2.2.1 hc
    refine r_sw hV (pc' := 87) rfl (by decide) (by rw [hc]; rfl) ?_
    refine r_aload_n hV rfl rfl (pc' := 88) rfl ?_
    refine tt_getI hV (tg := 0) (ci := 12) (kf := 2) rfl rfl (by decide) (hB _ _ rfl) rfl (by decide) (pc' := 91) rfl ?_
    exact rq_ret (q := mI286) rfl rfl rfl h
  have hc2_3 := hc
  clear hc
  by_cases hc : x = 4
  · replace h := h.2.2.2.2.1 hc
    refine r_sw hV (pc' := 92) rfl (by decide) (by rw [hc]; rfl) ?_
    refine r_aload_n hV rfl rfl (pc' := 93) rfl ?_
    refine tt_getI hV (tg := 0) (ci := 12) (kf := 32) rfl rfl (by decide) (hB _ _ rfl) rfl (by decide) (pc' := 96) rfl ?_
    exact rq_ret (q := mI286) rfl rfl rfl h
  have hc2_4 := hc
  clear hc
  by_cases hc : x = 5
  · replace h := h.2.2.2.2.2.1 hc
    refine r_sw hV (pc' := 97) rfl (by decide) (by rw [hc]; rfl) ?_
    refine r_aload_n hV rfl rfl (pc' := 98) rfl ?_
    refine tt_getR hV (tg := 6) (ci := 12) (kf := 30) rfl rfl (by decide) (hB _ _ rfl) rfl (by decide) (pc' := 101) rfl ?_
    refine tt_bipush hV rfl (by decide) (pc' := 103) rfl ?_
    refine q_iald hV rfl (hB _ _ rfl) (Nat.le_of_ble_eq_true rfl) rfl (by decide) (pc' := 104) rfl ?_
    exact rq_ret (q := mI286) rfl rfl rfl h
  have hc2_5 := hc
  clear hc
  by_cases hc : x = 6
  · replace h := h.2.2.2.2.2.2.1 hc
    refine r_sw hV (pc' := 105) rfl (by decide) (by rw [hc]; rfl) ?_
    refine r_aload_n hV rfl rfl (pc' := 106) rfl ?_
    refine tt_getR hV (tg := 6) (ci := 12) (kf := 30) rfl rfl (by decide) (hB _ _ rfl) rfl (by decide) (pc' := 109) rfl ?_
    refine tt_bipush hV rfl (by decide) (pc' := 111) rfl ?_
    refine q_iald hV rfl (hB _ _ rfl) (Nat.le_of_ble_eq_true rfl) rfl (by decide) (pc' := 112) rfl ?_
    exact rq_ret (q := mI286) rfl rfl rfl h
  have hc2_6 := hc
  clear hc
  by_cases hc : x = 7
  · replace h := h.2.2.2.2.2.2.2.1 hc
    refine r_sw hV (pc' := 113) rfl (by decide) (by rw [hc]; rfl) ?_
    refine r_aload_n hV rfl rfl (pc' := 114) rfl ?_
    obtain ⟨v114, m114, h, hr⟩ := h
    refine tt_cv0I hV rfl rfl rfl (Wd_obj (hB _ _ rfl)) (Nat.le_of_ble_eq_true rfl) (Nat.le_of_ble_eq_true rfl) rfl hr (pc' := 117) rfl ?_
    refine r_aload_n hV rfl rfl (pc' := 118) rfl ?_
    refine tt_getR hV (tg := 6) (ci := 12) (kf := 30) rfl rfl (by decide) (hB _ _ rfl) rfl (by decide) (pc' := 121) rfl ?_
    refine tt_bipush hV rfl (by decide) (pc' := 123) rfl ?_
    refine q_iald hV rfl (hB _ _ rfl) (Nat.le_of_ble_eq_true rfl) rfl (by decide) (pc' := 124) rfl ?_
    refine tt_iconst hV rfl (pc' := 125) rfl ?_
    refine tt_ixor hV rfl (pc' := 126) rfl ?_
    refine tt_iand hV rfl (pc' := 127) rfl ?_
    exact rq_ret (q := mI286) rfl rfl rfl h
  have hc2_7 := hc
  clear hc
  by_cases hc : x = 8
  · replace h := h.2.2.2.2.2.2.2.2.1 hc
    refine r_sw hV (pc' := 128) rfl (by decide) (by rw [hc]; rfl) ?_
    refine r_aload_n hV rfl rfl (pc' := 129) rfl ?_
    refine tt_getR hV (tg := 6) (ci := 12) (kf := 30) rfl rfl (by decide) (hB _ _ rfl) rfl (by decide) (pc' := 132) rfl ?_
    refine tt_bipush hV rfl (by decide) (pc' := 134) rfl ?_
    refine q_iald hV rfl (hB _ _ rfl) (Nat.le_of_ble_eq_true rfl) rfl (by decide) (pc' := 135) rfl ?_
    exact rq_ret (q := mI286) rfl rfl rfl h
  have hc2_8 := hc
  clear hc
  by_cases hc : x = 9
  · replace h := h.2.2.2.2.2.2.2.2.2.1 hc
    refine r_sw hV (pc' := 136) rfl (by decide) (by rw [hc]; rfl) ?_
    refine r_aload_n hV rfl rfl (pc' := 137) rfl ?_
    refine tt_getI hV (tg := 0) (ci := 12) (kf := 33) rfl rfl (by decide) (hB _ _ rfl) rfl (by decide) (pc' := 140) rfl ?_
    exact rq_ret (q := mI286) rfl rfl rfl h
  have hc2_9 := hc
  clear hc
  by_cases hc : x = 10
  · replace h := h.2.2.2.2.2.2.2.2.2.2.1 hc
    refine r_sw hV (pc' := 141) rfl (by decide) (by rw [hc]; rfl) ?_
    refine r_aload_n hV rfl rfl (pc' := 142) rfl ?_
    refine tt_getI hV (tg := 0) (ci := 12) (kf := 48) rfl rfl (by decide) (hB _ _ rfl) rfl (by decide) (pc' := 145) rfl ?_
    exact rq_ret (q := mI286) rfl rfl rfl h
  have hc2_10 := hc
  clear hc
  by_cases hc : x = 11
  · replace h := h.2.2.2.2.2.2.2.2.2.2.2.1 hc
    refine r_sw hV (pc' := 146) rfl (by decide) (by rw [hc]; rfl) ?_
    refine r_aload_n hV rfl rfl (pc' := 147) rfl ?_
    refine tt_getI hV (tg := 0) (ci := 12) (kf := 29) rfl rfl (by decide) (hB _ _ rfl) rfl (by decide) (pc' := 150) rfl ?_
    exact rq_ret (q := mI286) rfl rfl rfl h
  have hc2_11 := hc
  clear hc
  by_cases hc : x = 12
  · replace h := h.2.2.2.2.2.2.2.2.2.2.2.2.1 hc
    refine r_sw hV (pc' := 151) rfl (by decide) (by rw [hc]; rfl) ?_
    refine r_aload_n hV rfl rfl (pc' := 152) rfl ?_
    refine tt_getR hV (tg := 6) (ci := 12) (kf := 30) rfl rfl (by decide) (hB _ _ rfl) rfl (by decide) (pc' := 155) rfl ?_
    refine tt_bipush hV rfl (by decide) (pc' := 157) rfl ?_
    refine q_iald hV rfl (hB _ _ rfl) (Nat.le_of_ble_eq_true rfl) rfl (by decide) (pc' := 158) rfl ?_
    exact rq_ret (q := mI286) rfl rfl rfl h
  have hc2_12 := hc
  clear hc
  by_cases hc : x = 13
  · replace h := h.2.2.2.2.2.2.2.2.2.2.2.2.2.1 hc
    refine r_sw hV (pc' := 159) rfl (by decide) (by rw [hc]; rfl) ?_
    refine r_aload_n hV rfl rfl (pc' := 160) rfl ?_
    refine tt_getI hV (tg := 0) (ci := 12) (kf := 36) rfl rfl (by decide) (hB _ _ rfl) rfl (by decide) (pc' := 163) rfl ?_
    exact rq_ret (q := mI286) rfl rfl rfl h
  have hc2_13 := hc
  clear hc
  replace h := h.2.2.2.2.2.2.2.2.2.2.2.2.2.2 ⟨hc2_0, hc2_1, hc2_2, hc2_3, hc2_4, hc2_5, hc2_6, hc2_7, hc2_8, hc2_9, hc2_10, hc2_11, hc2_12, hc2_13⟩
  refine r_sw hV (pc' := 164) rfl (by decide) ?_ ?_
  · exact sw_tab g1 (by clear h; omega) (by decide)
  refine v_ldcw hV (Int32.ofInt (-1000000)) rfl rfl rfl (pc' := 167) rfl ?_
  exact rq_ret (q := mI286) rfl rfl rfl h
