/-! ===== what is wanted at a place ===== -/
theorem M_itemOfw {X : Cx} {d : Nat} {x : Int} {y : Int} {m : Mm} {Q : Int → Mm → Prop} (hB : Bsh X.2.2.1) (h : (-2147483648 ≤ x ∧ x < 2147483648) ∧ (x = 98 → (-2147483648 ≤ y ∧ y < 2147483648) ∧ (y ≠ 114 → (y ≠ 99 → (y ≠ 107 → (y ≠ 100 → Q (-1) m) ∧ (y = 100 → Q 3 m)) ∧ (y = 107 → Q 2 m)) ∧ (y = 99 → Q 1 m)) ∧ (y = 114 → Q 0 m)) ∧ (x = 105 → (-2147483648 ≤ y ∧ y < 2147483648) ∧ (y ≠ 114 → Q (-1) m) ∧ (y = 114 → Q 0 m)) ∧ (x = 115 → (-2147483648 ≤ y ∧ y < 2147483648) ∧ (y ≠ 119 → (y ≠ 111 → (y ≠ 103 → (y ≠ 114 → (y ≠ 121 → Q (-1) m) ∧ (y = 121 → Q 4 m)) ∧ (y = 114 → Q 3 m)) ∧ (y = 103 → Q 2 m)) ∧ (y = 111 → Q 1 m)) ∧ (y = 119 → Q 0 m)) ∧ (x ≠ 98 ∧ x ≠ 105 ∧ x ≠ 115 → (-2147483648 ≤ y ∧ y < 2147483648) ∧ (y ≠ 119 → (y ≠ 108 → (y ≠ 104 → (y ≠ 115 → Q (-1) m) ∧ (y = 115 → Q 3 m)) ∧ (y = 104 → Q 2 m)) ∧ (y = 108 → Q 1 m)) ∧ (y = 119 → Q 0 m))) : M_itemOf X d x y m Q := by
  unfold M_itemOf
  have hV : Clo (gP X.1 X.2.1) d 197 2 false (Rq (gP X.1 X.2.1) d 197 X.2.2.1 X.2.2.2 Q) := Rq_clo (q := mI197) rfl
  refine r_iload_n hV rfl rfl (pc' := 1) rfl ?_
  obtain ⟨g1, h⟩ := h
  by_cases hc : x = 98
  · replace h := h.1 hc
    refine r_sw hV (pc' := 88) rfl (by decide) (by rw [hc]; rfl) ?_
    refine r_iload_n hV rfl rfl (pc' := 89) rfl ?_
    refine tt_bipush hV rfl (by decide) (pc' := 91) rfl ?_
    obtain ⟨g3, h⟩ := h
    refine tt_icmp_ne hV rfl g3 (by decide) (pt := 98) (by decide) (pf := 94) rfl (fun hc => ?_) (fun hc => ?_)
    · replace h := h.1 hc
      refine r_iload_n hV rfl rfl (pc' := 99) rfl ?_
      refine tt_bipush hV rfl (by decide) (pc' := 101) rfl ?_
      refine tt_icmp_ne hV rfl g3 (by decide) (pt := 108) (by decide) (pf := 104) rfl (fun hc => ?_) (fun hc => ?_)
      · replace h := h.1 hc
        refine r_iload_n hV rfl rfl (pc' := 109) rfl ?_
        refine tt_bipush hV rfl (by decide) (pc' := 111) rfl ?_
        refine tt_icmp_ne hV rfl g3 (by decide) (pt := 118) (by decide) (pf := 114) rfl (fun hc => ?_) (fun hc => ?_)
        · replace h := h.1 hc
          refine r_iload_n hV rfl rfl (pc' := 119) rfl ?_
          refine tt_bipush hV rfl (by decide) (pc' := 121) rfl ?_
          refine tt_icmp_ne hV rfl g3 (by decide) (pt := 128) (by decide) (pf := 124) rfl (fun hc => ?_) (fun hc => ?_)
          · replace h := h.1 hc
            refine tt_iconst hV rfl (pc' := 129) rfl ?_
            exact rq_ret (q := mI197) rfl rfl rfl h
          · replace h := h.2 (Decidable.not_not.mp hc)
            refine tt_iconst hV rfl (pc' := 125) rfl ?_
            refine r_goto hV rfl (pc' := 129) (by decide) ?_
            exact rq_ret (q := mI197) rfl rfl rfl h
        · replace h := h.2 (Decidable.not_not.mp hc)
          refine tt_iconst hV rfl (pc' := 115) rfl ?_
          refine r_goto hV rfl (pc' := 129) (by decide) ?_
          exact rq_ret (q := mI197) rfl rfl rfl h
      · replace h := h.2 (Decidable.not_not.mp hc)
        refine tt_iconst hV rfl (pc' := 105) rfl ?_
        refine r_goto hV rfl (pc' := 129) (by decide) ?_
        exact rq_ret (q := mI197) rfl rfl rfl h
    · replace h := h.2 (Decidable.not_not.mp hc)
      refine tt_iconst hV rfl (pc' := 95) rfl ?_
      refine r_goto hV rfl (pc' := 129) (by decide) ?_
      exact rq_ret (q := mI197) rfl rfl rfl h
  have hc2_0 := hc
  clear hc
  by_cases hc : x = 105
  · replace h := h.2.1 hc
    refine r_sw hV (pc' := 130) rfl (by decide) (by rw [hc]; rfl) ?_
    refine r_iload_n hV rfl rfl (pc' := 131) rfl ?_
    refine tt_bipush hV rfl (by decide) (pc' := 133) rfl ?_
    obtain ⟨g4, h⟩ := h
    refine tt_icmp_ne hV rfl g4 (by decide) (pt := 140) (by decide) (pf := 136) rfl (fun hc => ?_) (fun hc => ?_)
    · replace h := h.1 hc
      refine tt_iconst hV rfl (pc' := 141) rfl ?_
      exact rq_ret (q := mI197) rfl rfl rfl h
    · replace h := h.2 (Decidable.not_not.mp hc)
      refine tt_iconst hV rfl (pc' := 137) rfl ?_
      refine r_goto hV rfl (pc' := 141) (by decide) ?_
      exact rq_ret (q := mI197) rfl rfl rfl h
  have hc2_1 := hc
  clear hc
  by_cases hc : x = 115
  · replace h := h.2.2.1 hc
    refine r_sw hV (pc' := 36) rfl (by decide) (by rw [hc]; rfl) ?_
    refine r_iload_n hV rfl rfl (pc' := 37) rfl ?_
    refine tt_bipush hV rfl (by decide) (pc' := 39) rfl ?_
    obtain ⟨g5, h⟩ := h
    refine tt_icmp_ne hV rfl g5 (by decide) (pt := 46) (by decide) (pf := 42) rfl (fun hc => ?_) (fun hc => ?_)
    · replace h := h.1 hc
      refine r_iload_n hV rfl rfl (pc' := 47) rfl ?_
      refine tt_bipush hV rfl (by decide) (pc' := 49) rfl ?_
      refine tt_icmp_ne hV rfl g5 (by decide) (pt := 56) (by decide) (pf := 52) rfl (fun hc => ?_) (fun hc => ?_)
      · replace h := h.1 hc
        refine r_iload_n hV rfl rfl (pc' := 57) rfl ?_
        refine tt_bipush hV rfl (by decide) (pc' := 59) rfl ?_
        refine tt_icmp_ne hV rfl g5 (by decide) (pt := 66) (by decide) (pf := 62) rfl (fun hc => ?_) (fun hc => ?_)
        · replace h := h.1 hc
          refine r_iload_n hV rfl rfl (pc' := 67) rfl ?_
          refine tt_bipush hV rfl (by decide) (pc' := 69) rfl ?_
          refine tt_icmp_ne hV rfl g5 (by decide) (pt := 76) (by decide) (pf := 72) rfl (fun hc => ?_) (fun hc => ?_)
          · replace h := h.1 hc
            refine r_iload_n hV rfl rfl (pc' := 77) rfl ?_
            refine tt_bipush hV rfl (by decide) (pc' := 79) rfl ?_
            refine tt_icmp_ne hV rfl g5 (by decide) (pt := 86) (by decide) (pf := 82) rfl (fun hc => ?_) (fun hc => ?_)
            · replace h := h.1 hc
              refine tt_iconst hV rfl (pc' := 87) rfl ?_
              exact rq_ret (q := mI197) rfl rfl rfl h
            · replace h := h.2 (Decidable.not_not.mp hc)
              refine tt_iconst hV rfl (pc' := 83) rfl ?_
              refine r_goto hV rfl (pc' := 87) (by decide) ?_
              exact rq_ret (q := mI197) rfl rfl rfl h
          · replace h := h.2 (Decidable.not_not.mp hc)
            refine tt_iconst hV rfl (pc' := 73) rfl ?_
            refine r_goto hV rfl (pc' := 87) (by decide) ?_
            exact rq_ret (q := mI197) rfl rfl rfl h
        · replace h := h.2 (Decidable.not_not.mp hc)
          refine tt_iconst hV rfl (pc' := 63) rfl ?_
          refine r_goto hV rfl (pc' := 87) (by decide) ?_
          exact rq_ret (q := mI197) rfl rfl rfl h
      · replace h := h.2 (Decidable.not_not.mp hc)
        refine tt_iconst hV rfl (pc' := 53) rfl ?_
        refine r_goto hV rfl (pc' := 87) (by decide) ?_
        exact rq_ret (q := mI197) rfl rfl rfl h
    · replace h := h.2 (Decidable.not_not.mp hc)
      refine tt_iconst hV rfl (pc' := 43) rfl ?_
      refine r_goto hV rfl (pc' := 87) (by decide) ?_
      exact rq_ret (q := mI197) rfl rfl rfl h
  have hc2_2 := hc
  clear hc
  replace h := h.2.2.2 ⟨hc2_0, hc2_1, hc2_2⟩
  refine r_sw hV (pc' := 142) rfl (by decide) ?_ ?_
  · exact sw_look g1 (by decide) hc2_0 hc2_1 hc2_2 (by decide)
  refine r_iload_n hV rfl rfl (pc' := 143) rfl ?_
  refine tt_bipush hV rfl (by decide) (pc' := 145) rfl ?_
  obtain ⟨g6, h⟩ := h
  refine tt_icmp_ne hV rfl g6 (by decide) (pt := 152) (by decide) (pf := 148) rfl (fun hc => ?_) (fun hc => ?_)
  · replace h := h.1 hc
    refine r_iload_n hV rfl rfl (pc' := 153) rfl ?_
    refine tt_bipush hV rfl (by decide) (pc' := 155) rfl ?_
    refine tt_icmp_ne hV rfl g6 (by decide) (pt := 162) (by decide) (pf := 158) rfl (fun hc => ?_) (fun hc => ?_)
    · replace h := h.1 hc
      refine r_iload_n hV rfl rfl (pc' := 163) rfl ?_
      refine tt_bipush hV rfl (by decide) (pc' := 165) rfl ?_
      refine tt_icmp_ne hV rfl g6 (by decide) (pt := 172) (by decide) (pf := 168) rfl (fun hc => ?_) (fun hc => ?_)
      · replace h := h.1 hc
        refine r_iload_n hV rfl rfl (pc' := 173) rfl ?_
        refine tt_bipush hV rfl (by decide) (pc' := 175) rfl ?_
        refine tt_icmp_ne hV rfl g6 (by decide) (pt := 182) (by decide) (pf := 178) rfl (fun hc => ?_) (fun hc => ?_)
        · replace h := h.1 hc
          refine tt_iconst hV rfl (pc' := 183) rfl ?_
          exact rq_ret (q := mI197) rfl rfl rfl h
        · replace h := h.2 (Decidable.not_not.mp hc)
          refine tt_iconst hV rfl (pc' := 179) rfl ?_
          refine r_goto hV rfl (pc' := 183) (by decide) ?_
          exact rq_ret (q := mI197) rfl rfl rfl h
      · replace h := h.2 (Decidable.not_not.mp hc)
        refine tt_iconst hV rfl (pc' := 169) rfl ?_
        refine r_goto hV rfl (pc' := 183) (by decide) ?_
        exact rq_ret (q := mI197) rfl rfl rfl h
    · replace h := h.2 (Decidable.not_not.mp hc)
      refine tt_iconst hV rfl (pc' := 159) rfl ?_
      refine r_goto hV rfl (pc' := 183) (by decide) ?_
      exact rq_ret (q := mI197) rfl rfl rfl h
  · replace h := h.2 (Decidable.not_not.mp hc)
    refine tt_iconst hV rfl (pc' := 149) rfl ?_
    refine r_goto hV rfl (pc' := 183) (by decide) ?_
    exact rq_ret (q := mI197) rfl rfl rfl h
theorem M_lowestw {X : Cx} {d : Nat} {x : Int} {y : Int} {m : Mm} {Q : Int → Mm → Prop} (hB : Bsh X.2.2.1) (h : (-2147483648 ≤ x ∧ x < 2147483648) ∧ (x = 98 → (-2147483648 ≤ y ∧ y < 2147483648) ∧ (y = 0 → Q 1 m) ∧ (y ≠ 0 → (y ≠ 2 → Q 0 m) ∧ (y = 2 → Q 1 m))) ∧ (x = 105 → Q 0 m) ∧ (x = 115 → (-2147483648 ≤ y ∧ y < 2147483648) ∧ (y ≠ 0 → (y = 2 → Q 1 m) ∧ (y ≠ 2 → (y ≠ 3 → Q 0 m) ∧ (y = 3 → Q 1 m))) ∧ (y = 0 → Q 3 m)) ∧ (x ≠ 98 ∧ x ≠ 105 ∧ x ≠ 115 → (-2147483648 ≤ y ∧ y < 2147483648) ∧ (y ≠ 0 → Q 0 m) ∧ (y = 0 → Q 1 m))) : M_lowest X d x y m Q := by
  unfold M_lowest
  have hV : Clo (gP X.1 X.2.1) d 198 2 false (Rq (gP X.1 X.2.1) d 198 X.2.2.1 X.2.2.2 Q) := Rq_clo (q := mI198) rfl
  refine r_iload_n hV rfl rfl (pc' := 1) rfl ?_
  obtain ⟨g1, h⟩ := h
  by_cases hc : x = 98
  · replace h := h.1 hc
    refine r_sw hV (pc' := 60) rfl (by decide) (by rw [hc]; rfl) ?_
    refine r_iload_n hV rfl rfl (pc' := 61) rfl ?_
    obtain ⟨g3, h⟩ := h
    refine tt_if_eq hV rfl g3 (pt := 69) (by decide) (pf := 64) rfl (fun hc => ?_) (fun hc => ?_)
    · replace h := h.1 hc
      refine tt_iconst hV rfl (pc' := 70) rfl ?_
      refine r_goto hV rfl (pc' := 74) (by decide) ?_
      exact rq_ret (q := mI198) rfl rfl rfl h
    · replace h := h.2 hc
      refine r_iload_n hV rfl rfl (pc' := 65) rfl ?_
      refine tt_iconst hV rfl (pc' := 66) rfl ?_
      refine tt_icmp_ne hV rfl g3 (by decide) (pt := 73) (by decide) (pf := 69) rfl (fun hc => ?_) (fun hc => ?_)
      · replace h := h.1 hc
        refine tt_iconst hV rfl (pc' := 74) rfl ?_
        exact rq_ret (q := mI198) rfl rfl rfl h
      · replace h := h.2 (Decidable.not_not.mp hc)
        refine tt_iconst hV rfl (pc' := 70) rfl ?_
        refine r_goto hV rfl (pc' := 74) (by decide) ?_
        exact rq_ret (q := mI198) rfl rfl rfl h
  have hc2_0 := hc
  clear hc
  by_cases hc : x = 105
  · replace h := h.2.1 hc
    refine r_sw hV (pc' := 75) rfl (by decide) (by rw [hc]; rfl) ?_
    refine tt_iconst hV rfl (pc' := 76) rfl ?_
    exact rq_ret (q := mI198) rfl rfl rfl h
  have hc2_1 := hc
  clear hc
  by_cases hc : x = 115
  · replace h := h.2.2.1 hc
    refine r_sw hV (pc' := 36) rfl (by decide) (by rw [hc]; rfl) ?_
    refine r_iload_n hV rfl rfl (pc' := 37) rfl ?_
    obtain ⟨g4, h⟩ := h
    refine tt_if_ne hV rfl g4 (pt := 44) (by decide) (pf := 40) rfl (fun hc => ?_) (fun hc => ?_)
    · replace h := h.1 hc
      refine r_iload_n hV rfl rfl (pc' := 45) rfl ?_
      refine tt_iconst hV rfl (pc' := 46) rfl ?_
      refine tt_icmp_eq hV rfl g4 (by decide) (pt := 54) (by decide) (pf := 49) rfl (fun hc => ?_) (fun hc => ?_)
      · replace h := h.1 hc
        refine tt_iconst hV rfl (pc' := 55) rfl ?_
        refine r_goto hV rfl (pc' := 59) (by decide) ?_
        exact rq_ret (q := mI198) rfl rfl rfl h
      · replace h := h.2 hc
        refine r_iload_n hV rfl rfl (pc' := 50) rfl ?_
        refine tt_iconst hV rfl (pc' := 51) rfl ?_
        refine tt_icmp_ne hV rfl g4 (by decide) (pt := 58) (by decide) (pf := 54) rfl (fun hc => ?_) (fun hc => ?_)
        · replace h := h.1 hc
          refine tt_iconst hV rfl (pc' := 59) rfl ?_
          exact rq_ret (q := mI198) rfl rfl rfl h
        · replace h := h.2 (Decidable.not_not.mp hc)
          refine tt_iconst hV rfl (pc' := 55) rfl ?_
          refine r_goto hV rfl (pc' := 59) (by decide) ?_
          exact rq_ret (q := mI198) rfl rfl rfl h
    · replace h := h.2 (Decidable.not_not.mp hc)
      refine tt_iconst hV rfl (pc' := 41) rfl ?_
      refine r_goto hV rfl (pc' := 59) (by decide) ?_
      exact rq_ret (q := mI198) rfl rfl rfl h
  have hc2_2 := hc
  clear hc
  replace h := h.2.2.2 ⟨hc2_0, hc2_1, hc2_2⟩
  refine r_sw hV (pc' := 77) rfl (by decide) ?_ ?_
  · exact sw_look g1 (by decide) hc2_0 hc2_1 hc2_2 (by decide)
  refine r_iload_n hV rfl rfl (pc' := 78) rfl ?_
  obtain ⟨g5, h⟩ := h
  refine tt_if_ne hV rfl g5 (pt := 85) (by decide) (pf := 81) rfl (fun hc => ?_) (fun hc => ?_)
  · replace h := h.1 hc
    refine tt_iconst hV rfl (pc' := 86) rfl ?_
    exact rq_ret (q := mI198) rfl rfl rfl h
  · replace h := h.2 (Decidable.not_not.mp hc)
    refine tt_iconst hV rfl (pc' := 82) rfl ?_
    refine r_goto hV rfl (pc' := 86) (by decide) ?_
    exact rq_ret (q := mI198) rfl rfl rfl h
theorem M_highestw {X : Cx} {d : Nat} {x : Int} {y : Int} {m : Mm} {Q : Int → Mm → Prop} (hB : Bsh X.2.2.1) (h : (-2147483648 ≤ x ∧ x < 2147483648) ∧ (x = 98 → (-2147483648 ≤ y ∧ y < 2147483648) ∧ (y ≠ 0 → (y ≠ 1 → (y ≠ 2 → Q 1 m) ∧ (y = 2 → Q 9 m)) ∧ (y = 1 → Q 8 m)) ∧ (y = 0 → Q 20 m)) ∧ (x = 105 → Q 19 m) ∧ (x = 115 → (-2147483648 ≤ y ∧ y < 2147483648) ∧ (y ≠ 1 → (y ≠ 2 → (y ≠ 3 → Q 9 m) ∧ (y = 3 → Q 20 m)) ∧ (y = 2 → Q 60 m)) ∧ (y = 1 → Q 8 m)) ∧ (x ≠ 98 ∧ x ≠ 105 ∧ x ≠ 115 → (-2147483648 ≤ y ∧ y < 2147483648) ∧ (y ≠ 1 → Q 9 m) ∧ (y = 1 → Q 2 m))) : M_highest X d x y m Q := by
  unfold M_highest
  have hV : Clo (gP X.1 X.2.1) d 199 2 false (Rq (gP X.1 X.2.1) d 199 X.2.2.1 X.2.2.2 Q) := Rq_clo (q := mI199) rfl
  refine r_iload_n hV rfl rfl (pc' := 1) rfl ?_
  obtain ⟨g1, h⟩ := h
  by_cases hc : x = 98
  · replace h := h.1 hc
    refine r_sw hV (pc' := 69) rfl (by decide) (by rw [hc]; rfl) ?_
    refine r_iload_n hV rfl rfl (pc' := 70) rfl ?_
    obtain ⟨g3, h⟩ := h
    refine tt_if_ne hV rfl g3 (pt := 78) (by decide) (pf := 73) rfl (fun hc => ?_) (fun hc => ?_)
    · replace h := h.1 hc
      refine r_iload_n hV rfl rfl (pc' := 79) rfl ?_
      refine tt_iconst hV rfl (pc' := 80) rfl ?_
      refine tt_icmp_ne hV rfl g3 (by decide) (pt := 88) (by decide) (pf := 83) rfl (fun hc => ?_) (fun hc => ?_)
      · replace h := h.1 hc
        refine r_iload_n hV rfl rfl (pc' := 89) rfl ?_
        refine tt_iconst hV rfl (pc' := 90) rfl ?_
        refine tt_icmp_ne hV rfl g3 (by decide) (pt := 98) (by decide) (pf := 93) rfl (fun hc => ?_) (fun hc => ?_)
        · replace h := h.1 hc
          refine tt_iconst hV rfl (pc' := 99) rfl ?_
          exact rq_ret (q := mI199) rfl rfl rfl h
        · replace h := h.2 (Decidable.not_not.mp hc)
          refine tt_bipush hV rfl (by decide) (pc' := 95) rfl ?_
          refine r_goto hV rfl (pc' := 99) (by decide) ?_
          exact rq_ret (q := mI199) rfl rfl rfl h
      · replace h := h.2 (Decidable.not_not.mp hc)
        refine tt_bipush hV rfl (by decide) (pc' := 85) rfl ?_
        refine r_goto hV rfl (pc' := 99) (by decide) ?_
        exact rq_ret (q := mI199) rfl rfl rfl h
    · replace h := h.2 (Decidable.not_not.mp hc)
      refine tt_bipush hV rfl (by decide) (pc' := 75) rfl ?_
      refine r_goto hV rfl (pc' := 99) (by decide) ?_
      exact rq_ret (q := mI199) rfl rfl rfl h
  have hc2_0 := hc
  clear hc
  by_cases hc : x = 105
  · replace h := h.2.1 hc
    refine r_sw hV (pc' := 100) rfl (by decide) (by rw [hc]; rfl) ?_
    refine tt_bipush hV rfl (by decide) (pc' := 102) rfl ?_
    exact rq_ret (q := mI199) rfl rfl rfl h
  have hc2_1 := hc
  clear hc
  by_cases hc : x = 115
  · replace h := h.2.2.1 hc
    refine r_sw hV (pc' := 36) rfl (by decide) (by rw [hc]; rfl) ?_
    refine r_iload_n hV rfl rfl (pc' := 37) rfl ?_
    refine tt_iconst hV rfl (pc' := 38) rfl ?_
    obtain ⟨g4, h⟩ := h
    refine tt_icmp_ne hV rfl g4 (by decide) (pt := 46) (by decide) (pf := 41) rfl (fun hc => ?_) (fun hc => ?_)
    · replace h := h.1 hc
      refine r_iload_n hV rfl rfl (pc' := 47) rfl ?_
      refine tt_iconst hV rfl (pc' := 48) rfl ?_
      refine tt_icmp_ne hV rfl g4 (by decide) (pt := 56) (by decide) (pf := 51) rfl (fun hc => ?_) (fun hc => ?_)
      · replace h := h.1 hc
        refine r_iload_n hV rfl rfl (pc' := 57) rfl ?_
        refine tt_iconst hV rfl (pc' := 58) rfl ?_
        refine tt_icmp_ne hV rfl g4 (by decide) (pt := 66) (by decide) (pf := 61) rfl (fun hc => ?_) (fun hc => ?_)
        · replace h := h.1 hc
          refine tt_bipush hV rfl (by decide) (pc' := 68) rfl ?_
          exact rq_ret (q := mI199) rfl rfl rfl h
        · replace h := h.2 (Decidable.not_not.mp hc)
          refine tt_bipush hV rfl (by decide) (pc' := 63) rfl ?_
          refine r_goto hV rfl (pc' := 68) (by decide) ?_
          exact rq_ret (q := mI199) rfl rfl rfl h
      · replace h := h.2 (Decidable.not_not.mp hc)
        refine tt_bipush hV rfl (by decide) (pc' := 53) rfl ?_
        refine r_goto hV rfl (pc' := 68) (by decide) ?_
        exact rq_ret (q := mI199) rfl rfl rfl h
    · replace h := h.2 (Decidable.not_not.mp hc)
      refine tt_bipush hV rfl (by decide) (pc' := 43) rfl ?_
      refine r_goto hV rfl (pc' := 68) (by decide) ?_
      exact rq_ret (q := mI199) rfl rfl rfl h
  have hc2_2 := hc
  clear hc
  replace h := h.2.2.2 ⟨hc2_0, hc2_1, hc2_2⟩
  refine r_sw hV (pc' := 103) rfl (by decide) ?_ ?_
  · exact sw_look g1 (by decide) hc2_0 hc2_1 hc2_2 (by decide)
  refine r_iload_n hV rfl rfl (pc' := 104) rfl ?_
  refine tt_iconst hV rfl (pc' := 105) rfl ?_
  obtain ⟨g5, h⟩ := h
  refine tt_icmp_ne hV rfl g5 (by decide) (pt := 112) (by decide) (pf := 108) rfl (fun hc => ?_) (fun hc => ?_)
  · replace h := h.1 hc
    refine tt_bipush hV rfl (by decide) (pc' := 114) rfl ?_
    exact rq_ret (q := mI199) rfl rfl rfl h
  · replace h := h.2 (Decidable.not_not.mp hc)
    refine tt_iconst hV rfl (pc' := 109) rfl ?_
    refine r_goto hV rfl (pc' := 114) (by decide) ?_
    exact rq_ret (q := mI199) rfl rfl rfl h
theorem M_usualw {X : Cx} {d : Nat} {x : Int} {y : Int} {m : Mm} {Q : Int → Mm → Prop} (hB : Bsh X.2.2.1) (h : (-2147483648 ≤ x ∧ x < 2147483648) ∧ (x = 98 → (-2147483648 ≤ y ∧ y < 2147483648) ∧ (y ≠ 0 → (y ≠ 2 → Q 0 m) ∧ (y = 2 → Q 3 m)) ∧ (y = 0 → Q 1 m)) ∧ (x = 105 → Q 0 m) ∧ (x = 115 → (-2147483648 ≤ y ∧ y < 2147483648) ∧ (y ≠ 0 → (y ≠ 1 → (y ≠ 2 → (y ≠ 3 → Q 3 m) ∧ (y = 3 → Q 10 m)) ∧ (y = 2 → Q 6 m)) ∧ (y = 1 → Q 2 m)) ∧ (y = 0 → Q 5 m)) ∧ (x ≠ 98 ∧ x ≠ 105 ∧ x ≠ 115 → (-2147483648 ≤ y ∧ y < 2147483648) ∧ (y ≠ 1 → (y ≠ 3 → Q 3 m) ∧ (y = 3 → Q 2 m)) ∧ (y = 1 → Q 1 m))) : M_usual X d x y m Q := by
  unfold M_usual
  have hV : Clo (gP X.1 X.2.1) d 200 2 false (Rq (gP X.1 X.2.1) d 200 X.2.2.1 X.2.2.2 Q) := Rq_clo (q := mI200) rfl
  refine r_iload_n hV rfl rfl (pc' := 1) rfl ?_
  obtain ⟨g1, h⟩ := h
  by_cases hc : x = 98
  · replace h := h.1 hc
    refine r_sw hV (pc' := 75) rfl (by decide) (by rw [hc]; rfl) ?_
    refine r_iload_n hV rfl rfl (pc' := 76) rfl ?_
    obtain ⟨g3, h⟩ := h
    refine tt_if_ne hV rfl g3 (pt := 83) (by decide) (pf := 79) rfl (fun hc => ?_) (fun hc => ?_)
    · replace h := h.1 hc
      refine r_iload_n hV rfl rfl (pc' := 84) rfl ?_
      refine tt_iconst hV rfl (pc' := 85) rfl ?_
      refine tt_icmp_ne hV rfl g3 (by decide) (pt := 92) (by decide) (pf := 88) rfl (fun hc => ?_) (fun hc => ?_)
      · replace h := h.1 hc
        refine tt_iconst hV rfl (pc' := 93) rfl ?_
        exact rq_ret (q := mI200) rfl rfl rfl h
      · replace h := h.2 (Decidable.not_not.mp hc)
        refine tt_iconst hV rfl (pc' := 89) rfl ?_
        refine r_goto hV rfl (pc' := 93) (by decide) ?_
        exact rq_ret (q := mI200) rfl rfl rfl h
    · replace h := h.2 (Decidable.not_not.mp hc)
      refine tt_iconst hV rfl (pc' := 80) rfl ?_
      refine r_goto hV rfl (pc' := 93) (by decide) ?_
      exact rq_ret (q := mI200) rfl rfl rfl h
  have hc2_0 := hc
  clear hc
  by_cases hc : x = 105
  · replace h := h.2.1 hc
    refine r_sw hV (pc' := 94) rfl (by decide) (by rw [hc]; rfl) ?_
    refine tt_iconst hV rfl (pc' := 95) rfl ?_
    exact rq_ret (q := mI200) rfl rfl rfl h
  have hc2_1 := hc
  clear hc
  by_cases hc : x = 115
  · replace h := h.2.2.1 hc
    refine r_sw hV (pc' := 36) rfl (by decide) (by rw [hc]; rfl) ?_
    refine r_iload_n hV rfl rfl (pc' := 37) rfl ?_
    obtain ⟨g4, h⟩ := h
    refine tt_if_ne hV rfl g4 (pt := 44) (by decide) (pf := 40) rfl (fun hc => ?_) (fun hc => ?_)
    · replace h := h.1 hc
      refine r_iload_n hV rfl rfl (pc' := 45) rfl ?_
      refine tt_iconst hV rfl (pc' := 46) rfl ?_
      refine tt_icmp_ne hV rfl g4 (by decide) (pt := 53) (by decide) (pf := 49) rfl (fun hc => ?_) (fun hc => ?_)
      · replace h := h.1 hc
        refine r_iload_n hV rfl rfl (pc' := 54) rfl ?_
        refine tt_iconst hV rfl (pc' := 55) rfl ?_
        refine tt_icmp_ne hV rfl g4 (by decide) (pt := 63) (by decide) (pf := 58) rfl (fun hc => ?_) (fun hc => ?_)
        · replace h := h.1 hc
          refine r_iload_n hV rfl rfl (pc' := 64) rfl ?_
          refine tt_iconst hV rfl (pc' := 65) rfl ?_
          refine tt_icmp_ne hV rfl g4 (by decide) (pt := 73) (by decide) (pf := 68) rfl (fun hc => ?_) (fun hc => ?_)
          · replace h := h.1 hc
            refine tt_iconst hV rfl (pc' := 74) rfl ?_
            exact rq_ret (q := mI200) rfl rfl rfl h
          · replace h := h.2 (Decidable.not_not.mp hc)
            refine tt_bipush hV rfl (by decide) (pc' := 70) rfl ?_
            refine r_goto hV rfl (pc' := 74) (by decide) ?_
            exact rq_ret (q := mI200) rfl rfl rfl h
        · replace h := h.2 (Decidable.not_not.mp hc)
          refine tt_bipush hV rfl (by decide) (pc' := 60) rfl ?_
          refine r_goto hV rfl (pc' := 74) (by decide) ?_
          exact rq_ret (q := mI200) rfl rfl rfl h
      · replace h := h.2 (Decidable.not_not.mp hc)
        refine tt_iconst hV rfl (pc' := 50) rfl ?_
        refine r_goto hV rfl (pc' := 74) (by decide) ?_
        exact rq_ret (q := mI200) rfl rfl rfl h
    · replace h := h.2 (Decidable.not_not.mp hc)
      refine tt_iconst hV rfl (pc' := 41) rfl ?_
      refine r_goto hV rfl (pc' := 74) (by decide) ?_
      exact rq_ret (q := mI200) rfl rfl rfl h
  have hc2_2 := hc
  clear hc
  replace h := h.2.2.2 ⟨hc2_0, hc2_1, hc2_2⟩
  refine r_sw hV (pc' := 96) rfl (by decide) ?_ ?_
  · exact sw_look g1 (by decide) hc2_0 hc2_1 hc2_2 (by decide)
  refine r_iload_n hV rfl rfl (pc' := 97) rfl ?_
  refine tt_iconst hV rfl (pc' := 98) rfl ?_
  obtain ⟨g5, h⟩ := h
  refine tt_icmp_ne hV rfl g5 (by decide) (pt := 105) (by decide) (pf := 101) rfl (fun hc => ?_) (fun hc => ?_)
  · replace h := h.1 hc
    refine r_iload_n hV rfl rfl (pc' := 106) rfl ?_
    refine tt_iconst hV rfl (pc' := 107) rfl ?_
    refine tt_icmp_ne hV rfl g5 (by decide) (pt := 114) (by decide) (pf := 110) rfl (fun hc => ?_) (fun hc => ?_)
    · replace h := h.1 hc
      refine tt_iconst hV rfl (pc' := 115) rfl ?_
      exact rq_ret (q := mI200) rfl rfl rfl h
    · replace h := h.2 (Decidable.not_not.mp hc)
      refine tt_iconst hV rfl (pc' := 111) rfl ?_
      refine r_goto hV rfl (pc' := 115) (by decide) ?_
      exact rq_ret (q := mI200) rfl rfl rfl h
  · replace h := h.2 (Decidable.not_not.mp hc)
    refine tt_iconst hV rfl (pc' := 102) rfl ?_
    refine r_goto hV rfl (pc' := 115) (by decide) ?_
    exact rq_ret (q := mI200) rfl rfl rfl h
theorem M_itemsw {X : Cx} {d : Nat} {x : Int} {t : Nat} {y : Int} {z : Int} {m : Mm} {Q : Mm → Prop} (hB : Bsh X.2.2.1) (ht : tO t) (h : M_items_3 X (d + 1) t x y z 0 m Q) : M_items X (d + 1) x t y z m Q := by
  unfold M_items
  have hV : Clo (gP X.1 X.2.1) (d + 1) 201 7 false (Ru0 (gP X.1 X.2.1) (d + 1) 201 X.2.2.1 X.2.2.2 Q) := Ru0_clo (q := mI201) rfl
  refine tt_iconst hV rfl (pc' := 1) rfl ?_
  refine tt_istore5 hV rfl rfl (pc' := 3) rfl ?_
  exact h
theorem M_items_3w {X : Cx} {d : Nat} {t : Nat} {x : Int} {y : Int} {z : Int} {l5 : Int} {m : Mm} {Q : Mm → Prop} (hB : Bsh X.2.2.1) (ht : tO t) (h : (-2147483648 ≤ l5 ∧ l5 < 2147483648) ∧ (-2147483648 ≤ z ∧ z < 2147483648) ∧ (z ≤ l5 → M_look X d m (fun v33 m33 => M_itemOf X d x v33 m33 (fun v36 m36 => M_items_41 X (d + 1) t x y z 0 v36 m36 Q))) ∧ (l5 < z → M_usual X d x l5 m (fun v18 m18 => (0 ≤ y + l5 ∧ y + l5 < (tLen t : Int)) ∧ M_items_3 X (d + 1) t x y z (l5 + 1) (up m18 t (y + l5) v18) Q))) : M_items_3 X (d + 1) t x y z l5 m Q := by
  unfold M_items_3
  have hV : Clo (gP X.1 X.2.1) (d + 1) 201 7 false (Ru0 (gP X.1 X.2.1) (d + 1) 201 X.2.2.1 X.2.2.2 Q) := Ru0_clo (q := mI201) rfl
  refine r_iload hV rfl rfl (pc' := 5) rfl ?_
  refine r_iload hV rfl rfl (pc' := 7) rfl ?_
  obtain ⟨g1, h⟩ := h
  obtain ⟨g2, h⟩ := h
  refine tt_icmp_ge hV rfl g1 g2 (pt := 28) (by decide) (pf := 10) rfl (fun hc => ?_) (fun hc => ?_)
  · replace h := h.1 hc
    refine tt_iconst hV rfl (pc' := 29) rfl ?_
    refine tt_istore5 hV rfl rfl (pc' := 31) rfl ?_
    refine r_iload_n hV rfl rfl (pc' := 32) rfl ?_
    refine r_aload_n hV rfl rfl (pc' := 33) rfl ?_
    obtain ⟨v33, m33, h, hr⟩ := h
    refine tt_cv0I hV rfl rfl rfl (Wd_obj (hB _ _ rfl)) (Nat.le_of_ble_eq_true rfl) (Nat.le_of_ble_eq_true rfl) rfl hr (pc' := 36) rfl ?_
    obtain ⟨v36, m36, h, hr⟩ := h
    refine tt_cs2I hV rfl rfl rfl (Nat.le_of_ble_eq_true rfl) (Nat.le_of_ble_eq_true rfl) rfl hr (pc' := 39) rfl ?_
    refine tt_istore6 hV rfl rfl (pc' := 41) rfl ?_
    exact h
  · replace h := h.2 (Int.not_le.mp hc)
    refine r_aload_n hV rfl rfl (pc' := 11) rfl ?_
    refine r_iload_n hV rfl rfl (pc' := 12) rfl ?_
    refine r_iload hV rfl rfl (pc' := 14) rfl ?_
    refine tt_iadd hV rfl (pc' := 15) rfl ?_
    refine r_iload_n hV rfl rfl (pc' := 16) rfl ?_
    refine r_iload hV rfl rfl (pc' := 18) rfl ?_
    obtain ⟨v18, m18, h, hr⟩ := h
    refine tt_cs2I hV rfl rfl rfl (Nat.le_of_ble_eq_true rfl) (Nat.le_of_ble_eq_true rfl) rfl hr (pc' := 21) rfl ?_
    obtain ⟨g3, h⟩ := h
    refine q_iast hV rfl (tSh hB ht) (tLen_le t) rfl g3 (pc' := 22) rfl ?_
    refine tt_iinc5 hV rfl rfl (pc' := 25) rfl ?_
    refine r_goto hV rfl (pc' := 3) (by decide) ?_
    exact h
theorem M_items_41w {X : Cx} {d : Nat} {t : Nat} {x : Int} {y : Int} {z : Int} {l5 : Int} {l6 : Int} {m : Mm} {Q : Mm → Prop} (hB : Bsh X.2.2.1) (ht : tO t) (h : (-2147483648 ≤ (m 83 4) ∧ (m 83 4) < 2147483648) ∧ (m 83 4 ≠ -1 → Q m) ∧ (m 83 4 = -1 → (-2147483648 ≤ l6 ∧ l6 < 2147483648) ∧ (l6 = -1 → Q m) ∧ (l6 ≠ -1 → M_has X d l5 l6 m (fun v59 m59 => (-2147483648 ≤ v59 ∧ v59 < 2147483648) ∧ (v59 ≠ 0 → Q m59) ∧ (v59 = 0 → M_lowest X d x l6 (up m59 83 3 (m59 83 3 + 1)) (fun v93 m93 => M_highest X d x l6 m93 (fun v99 m99 => M_number X d v93 v99 m99 (fun v102 m102 => (0 ≤ y + l6 ∧ y + l6 < (tLen t : Int)) ∧ (-2147483648 ≤ (m102 83 4) ∧ (m102 83 4) < 2147483648) ∧ (m102 83 4 ≠ -1 → M_items_41 X (d + 1) t x y z ((iO l5 ((iSl 1 l6)))) (-1) (up m102 t (y + l6) v102) Q) ∧ (m102 83 4 = -1 → M_look X d (up m102 t (y + l6) v102) (fun v116 m116 => M_itemOf X d x v116 m116 (fun v119 m119 => M_items_41 X (d + 1) t x y z ((iO l5 ((iSl 1 l6)))) v119 m119 Q))))))))))) : M_items_41 X (d + 1) t x y z l5 l6 m Q := by
  unfold M_items_41
  have hV : Clo (gP X.1 X.2.1) (d + 1) 201 7 false (Ru0 (gP X.1 X.2.1) (d + 1) 201 X.2.2.1 X.2.2.2 Q) := Ru0_clo (q := mI201) rfl
  refine r_aload_n hV rfl rfl (pc' := 42) rfl ?_
  refine tt_getI hV (tg := 0) (ci := 12) (kf := 4) rfl rfl (by decide) (hB _ _ rfl) rfl (by decide) (pc' := 45) rfl ?_
  refine tt_iconst hV rfl (pc' := 46) rfl ?_
  obtain ⟨g4, h⟩ := h
  refine tt_icmp_ne hV rfl g4 (by decide) (pt := 131) (by decide) (pf := 49) rfl (fun hc => ?_) (fun hc => ?_)
  · replace h := h.1 hc
    exact ru0_ret (q := mI201) rfl rfl rfl h
  · replace h := h.2 (Decidable.not_not.mp hc)
    refine r_iload hV rfl rfl (pc' := 51) rfl ?_
    refine tt_iconst hV rfl (pc' := 52) rfl ?_
    obtain ⟨g5, h⟩ := h
    refine tt_icmp_eq hV rfl g5 (by decide) (pt := 131) (by decide) (pf := 55) rfl (fun hc => ?_) (fun hc => ?_)
    · replace h := h.1 hc
      exact ru0_ret (q := mI201) rfl rfl rfl h
    · replace h := h.2 hc
      refine r_iload hV rfl rfl (pc' := 57) rfl ?_
      refine r_iload hV rfl rfl (pc' := 59) rfl ?_
      obtain ⟨v59, m59, h, hr⟩ := h
      refine tt_cs2I hV rfl rfl rfl (Nat.le_of_ble_eq_true rfl) (Nat.le_of_ble_eq_true rfl) rfl hr (pc' := 62) rfl ?_
      obtain ⟨g6, h⟩ := h
      refine tt_if_ne hV rfl g6 (pt := 131) (by decide) (pf := 65) rfl (fun hc => ?_) (fun hc => ?_)
      · replace h := h.1 hc
        exact ru0_ret (q := mI201) rfl rfl rfl h
      · replace h := h.2 (Decidable.not_not.mp hc)
        refine r_iload hV rfl rfl (pc' := 67) rfl ?_
        refine tt_iconst hV rfl (pc' := 68) rfl ?_
        refine r_iload hV rfl rfl (pc' := 70) rfl ?_
        refine tt_ishl hV rfl (pc' := 71) rfl ?_
        refine tt_ior hV rfl (pc' := 72) rfl ?_
        refine tt_istore5 hV rfl rfl (pc' := 74) rfl ?_
        refine r_aload_n hV rfl rfl (pc' := 75) rfl ?_
        refine r_dup hV rfl rfl (pc' := 76) rfl ?_
        refine tt_getI hV (tg := 0) (ci := 12) (kf := 3) rfl rfl (by decide) (hB _ _ rfl) rfl (by decide) (pc' := 79) rfl ?_
        refine tt_iconst hV rfl (pc' := 80) rfl ?_
        refine tt_iadd hV rfl (pc' := 81) rfl ?_
        refine tt_putI hV (tg := 0) (ci := 12) (kf := 3) rfl rfl (Or.inl rfl) (hB _ _ rfl) rfl (by decide) rfl (pc' := 84) rfl ?_
        refine r_aload_n hV rfl rfl (pc' := 85) rfl ?_
        refine r_iload_n hV rfl rfl (pc' := 86) rfl ?_
        refine r_iload hV rfl rfl (pc' := 88) rfl ?_
        refine tt_iadd hV rfl (pc' := 89) rfl ?_
        refine r_aload_n hV rfl rfl (pc' := 90) rfl ?_
        refine r_iload_n hV rfl rfl (pc' := 91) rfl ?_
        refine r_iload hV rfl rfl (pc' := 93) rfl ?_
        obtain ⟨v93, m93, h, hr⟩ := h
        refine tt_cs2I hV rfl rfl rfl (Nat.le_of_ble_eq_true rfl) (Nat.le_of_ble_eq_true rfl) rfl hr (pc' := 96) rfl ?_
        refine r_iload_n hV rfl rfl (pc' := 97) rfl ?_
        refine r_iload hV rfl rfl (pc' := 99) rfl ?_
        obtain ⟨v99, m99, h, hr⟩ := h
        refine tt_cs2I hV rfl rfl rfl (Nat.le_of_ble_eq_true rfl) (Nat.le_of_ble_eq_true rfl) rfl hr (pc' := 102) rfl ?_
        obtain ⟨v102, m102, h, hr⟩ := h
        refine tt_cv2I hV rfl rfl rfl (Wd_obj (hB _ _ rfl)) (Nat.le_of_ble_eq_true rfl) (Nat.le_of_ble_eq_true rfl) rfl hr (pc' := 105) rfl ?_
        obtain ⟨g7, h⟩ := h
        refine q_iast hV rfl (tSh hB ht) (tLen_le t) rfl g7 (pc' := 106) rfl ?_
        refine r_aload_n hV rfl rfl (pc' := 107) rfl ?_
        refine tt_getI hV (tg := 0) (ci := 12) (kf := 4) rfl rfl (by decide) (hB _ _ rfl) rfl (by decide) (pc' := 110) rfl ?_
        refine vtI (y := m102 83 4) (up_ne (Or.inl (by clear h; omega))) ?_
        refine tt_iconst hV rfl (pc' := 111) rfl ?_
        obtain ⟨g8, h⟩ := h
        refine tt_icmp_ne hV rfl g8 (by decide) (pt := 125) (by decide) (pf := 114) rfl (fun hc => ?_) (fun hc => ?_)
        · replace h := h.1 hc
          refine tt_iconst hV rfl (pc' := 126) rfl ?_
          refine tt_istore6 hV rfl rfl (pc' := 128) rfl ?_
          refine r_goto hV rfl (pc' := 41) (by decide) ?_
          exact h
        · replace h := h.2 (Decidable.not_not.mp hc)
          refine r_iload_n hV rfl rfl (pc' := 115) rfl ?_
          refine r_aload_n hV rfl rfl (pc' := 116) rfl ?_
          obtain ⟨v116, m116, h, hr⟩ := h
          refine tt_cv0I hV rfl rfl rfl (Wd_obj (hB _ _ rfl)) (Nat.le_of_ble_eq_true rfl) (Nat.le_of_ble_eq_true rfl) rfl hr (pc' := 119) rfl ?_
          obtain ⟨v119, m119, h, hr⟩ := h
          refine tt_cs2I hV rfl rfl rfl (Nat.le_of_ble_eq_true rfl) (Nat.le_of_ble_eq_true rfl) rfl hr (pc' := 122) rfl ?_
          refine r_goto hV rfl (pc' := 126) (by decide) ?_
          refine tt_istore6 hV rfl rfl (pc' := 128) rfl ?_
          refine r_goto hV rfl (pc' := 41) (by decide) ?_
          exact h
theorem M_clauseTextw {X : Cx} {d : Nat} {x : Int} {m : Mm} {Q : Mm → Prop} (hB : Bsh X.2.2.1) (h : (-2147483648 ≤ x ∧ x < 2147483648) ∧ (x = 98 → M_items X d x 95 (4 * (m 83 21)) 4 (up m 83 3 (m 83 3 + 1)) (fun m71 => Q (up m71 83 21 (m71 83 21 + 1)))) ∧ (x = 105 → M_items X d x 96 (m 83 22) 1 (up m 83 3 (m 83 3 + 1)) (fun m98 => Q (up m98 83 22 (m98 83 22 + 1)))) ∧ (x = 115 → M_items X d x 94 0 5 (up m 83 3 (m 83 3 + 1)) (fun m52 => Q m52)) ∧ (x ≠ 98 ∧ x ≠ 105 ∧ x ≠ 115 → M_items X d x 97 (4 * (m 83 23)) 4 (up m 83 3 (m 83 3 + 1)) (fun m127 => Q (up m127 83 23 (m127 83 23 + 1))))) : M_clauseText X (d + 1) x m Q := by
  unfold M_clauseText
  have hV : Clo (gP X.1 X.2.1) (d + 1) 202 2 false (Ru0 (gP X.1 X.2.1) (d + 1) 202 X.2.2.1 X.2.2.2 Q) := Ru0_clo (q := mI202) rfl
  refine r_aload_n hV rfl rfl (pc' := 1) rfl ?_
  refine r_dup hV rfl rfl (pc' := 2) rfl ?_
  refine tt_getI hV (tg := 0) (ci := 12) (kf := 3) rfl rfl (by decide) (hB _ _ rfl) rfl (by decide) (pc' := 5) rfl ?_
  refine tt_iconst hV rfl (pc' := 6) rfl ?_
  refine tt_iadd hV rfl (pc' := 7) rfl ?_
  refine tt_putI hV (tg := 0) (ci := 12) (kf := 3) rfl rfl (Or.inl rfl) (hB _ _ rfl) rfl (by decide) rfl (pc' := 10) rfl ?_
  refine r_iload_n hV rfl rfl (pc' := 11) rfl ?_
  obtain ⟨g1, h⟩ := h
  by_cases hc : x = 98
  · replace h := h.1 hc
    refine r_sw hV (pc' := 58) rfl (by decide) (by rw [hc]; rfl) ?_
    refine r_aload_n hV rfl rfl (pc' := 59) rfl ?_
    refine r_iload_n hV rfl rfl (pc' := 60) rfl ?_
    refine r_aload_n hV rfl rfl (pc' := 61) rfl ?_
    refine tt_getR hV (tg := 6) (ci := 12) (kf := 18) rfl rfl (by decide) (hB _ _ rfl) rfl (by decide) (pc' := 64) rfl ?_
    refine tt_iconst hV rfl (pc' := 65) rfl ?_
    refine r_aload_n hV rfl rfl (pc' := 66) rfl ?_
    refine tt_getI hV (tg := 0) (ci := 12) (kf := 21) rfl rfl (by decide) (hB _ _ rfl) rfl (by decide) (pc' := 69) rfl ?_
    refine vtI (y := m 83 21) (up_ne (Or.inr (by decide))) ?_
    refine tt_imul hV rfl (pc' := 70) rfl ?_
    refine vtI (y := 4 * (m 83 21)) (by clear h; omega) ?_
    refine tt_iconst hV rfl (pc' := 71) rfl ?_
    obtain ⟨m71, h, hr⟩ := h
    refine tt_cv4U hV rfl rfl rfl (Wd_obj (hB _ _ rfl)) (Nat.le_of_ble_eq_true rfl) (Nat.le_of_ble_eq_true rfl) rfl hr (pc' := 74) rfl ?_
    refine r_aload_n hV rfl rfl (pc' := 75) rfl ?_
    refine r_dup hV rfl rfl (pc' := 76) rfl ?_
    refine tt_getI hV (tg := 0) (ci := 12) (kf := 21) rfl rfl (by decide) (hB _ _ rfl) rfl (by decide) (pc' := 79) rfl ?_
    refine tt_iconst hV rfl (pc' := 80) rfl ?_
    refine tt_iadd hV rfl (pc' := 81) rfl ?_
    refine tt_putI hV (tg := 0) (ci := 12) (kf := 21) rfl rfl (Or.inl rfl) (hB _ _ rfl) rfl (by decide) rfl (pc' := 84) rfl ?_
    refine r_goto hV rfl (pc' := 140) (by decide) ?_
    exact ru0_ret (q := mI202) rfl rfl rfl h
  have hc2_0 := hc
  clear hc
  by_cases hc : x = 105
  · replace h := h.2.1 hc
    refine r_sw hV (pc' := 87) rfl (by decide) (by rw [hc]; rfl) ?_
    refine r_aload_n hV rfl rfl (pc' := 88) rfl ?_
    refine r_iload_n hV rfl rfl (pc' := 89) rfl ?_
    refine r_aload_n hV rfl rfl (pc' := 90) rfl ?_
    refine tt_getR hV (tg := 6) (ci := 12) (kf := 19) rfl rfl (by decide) (hB _ _ rfl) rfl (by decide) (pc' := 93) rfl ?_
    refine r_aload_n hV rfl rfl (pc' := 94) rfl ?_
    refine tt_getI hV (tg := 0) (ci := 12) (kf := 22) rfl rfl (by decide) (hB _ _ rfl) rfl (by decide) (pc' := 97) rfl ?_
    refine vtI (y := m 83 22) (up_ne (Or.inr (by decide))) ?_
    refine tt_iconst hV rfl (pc' := 98) rfl ?_
    obtain ⟨m98, h, hr⟩ := h
    refine tt_cv4U hV rfl rfl rfl (Wd_obj (hB _ _ rfl)) (Nat.le_of_ble_eq_true rfl) (Nat.le_of_ble_eq_true rfl) rfl hr (pc' := 101) rfl ?_
    refine r_aload_n hV rfl rfl (pc' := 102) rfl ?_
    refine r_dup hV rfl rfl (pc' := 103) rfl ?_
    refine tt_getI hV (tg := 0) (ci := 12) (kf := 22) rfl rfl (by decide) (hB _ _ rfl) rfl (by decide) (pc' := 106) rfl ?_
    refine tt_iconst hV rfl (pc' := 107) rfl ?_
    refine tt_iadd hV rfl (pc' := 108) rfl ?_
    refine tt_putI hV (tg := 0) (ci := 12) (kf := 22) rfl rfl (Or.inl rfl) (hB _ _ rfl) rfl (by decide) rfl (pc' := 111) rfl ?_
    refine r_goto hV rfl (pc' := 140) (by decide) ?_
    exact ru0_ret (q := mI202) rfl rfl rfl h
  have hc2_1 := hc
  clear hc
  by_cases hc : x = 115
  · replace h := h.2.2.1 hc
    refine r_sw hV (pc' := 44) rfl (by decide) (by rw [hc]; rfl) ?_
    refine r_aload_n hV rfl rfl (pc' := 45) rfl ?_
    refine r_iload_n hV rfl rfl (pc' := 46) rfl ?_
    refine r_aload_n hV rfl rfl (pc' := 47) rfl ?_
    refine tt_getR hV (tg := 6) (ci := 12) (kf := 17) rfl rfl (by decide) (hB _ _ rfl) rfl (by decide) (pc' := 50) rfl ?_
    refine tt_iconst hV rfl (pc' := 51) rfl ?_
    refine tt_iconst hV rfl (pc' := 52) rfl ?_
    obtain ⟨m52, h, hr⟩ := h
    refine tt_cv4U hV rfl rfl rfl (Wd_obj (hB _ _ rfl)) (Nat.le_of_ble_eq_true rfl) (Nat.le_of_ble_eq_true rfl) rfl hr (pc' := 55) rfl ?_
    refine r_goto hV rfl (pc' := 140) (by decide) ?_
    exact ru0_ret (q := mI202) rfl rfl rfl h
  have hc2_2 := hc
  clear hc
  replace h := h.2.2.2 ⟨hc2_0, hc2_1, hc2_2⟩
  refine r_sw hV (pc' := 114) rfl (by decide) ?_ ?_
  · exact sw_look g1 (by decide) hc2_0 hc2_1 hc2_2 (by decide)
  refine r_aload_n hV rfl rfl (pc' := 115) rfl ?_
  refine r_iload_n hV rfl rfl (pc' := 116) rfl ?_
  refine r_aload_n hV rfl rfl (pc' := 117) rfl ?_
  refine tt_getR hV (tg := 6) (ci := 12) (kf := 20) rfl rfl (by decide) (hB _ _ rfl) rfl (by decide) (pc' := 120) rfl ?_
  refine tt_iconst hV rfl (pc' := 121) rfl ?_
  refine r_aload_n hV rfl rfl (pc' := 122) rfl ?_
  refine tt_getI hV (tg := 0) (ci := 12) (kf := 23) rfl rfl (by decide) (hB _ _ rfl) rfl (by decide) (pc' := 125) rfl ?_
  refine vtI (y := m 83 23) (up_ne (Or.inr (by decide))) ?_
  refine tt_imul hV rfl (pc' := 126) rfl ?_
  refine vtI (y := 4 * (m 83 23)) (by clear h; omega) ?_
  refine tt_iconst hV rfl (pc' := 127) rfl ?_
  obtain ⟨m127, h, hr⟩ := h
  refine tt_cv4U hV rfl rfl rfl (Wd_obj (hB _ _ rfl)) (Nat.le_of_ble_eq_true rfl) (Nat.le_of_ble_eq_true rfl) rfl hr (pc' := 130) rfl ?_
  refine r_aload_n hV rfl rfl (pc' := 131) rfl ?_
  refine r_dup hV rfl rfl (pc' := 132) rfl ?_
  refine tt_getI hV (tg := 0) (ci := 12) (kf := 23) rfl rfl (by decide) (hB _ _ rfl) rfl (by decide) (pc' := 135) rfl ?_
  refine tt_iconst hV rfl (pc' := 136) rfl ?_
  refine tt_iadd hV rfl (pc' := 137) rfl ?_
  refine tt_putI hV (tg := 0) (ci := 12) (kf := 23) rfl rfl (Or.inl rfl) (hB _ _ rfl) rfl (by decide) rfl (pc' := 140) rfl ?_
  exact ru0_ret (q := mI202) rfl rfl rfl h
theorem M_isWholew {X : Cx} {d : Nat} {m : Mm} {Q : Int → Mm → Prop} (hB : Bsh X.2.2.1) (h : (-2147483648 ≤ (m 83 23) ∧ (m 83 23) < 2147483648) ∧ (m 83 23 ≤ 0 → M_isWhole_30 X d 0 0 none m Q) ∧ (0 < m 83 23 → (-2147483648 ≤ (m 94 1) ∧ (m 94 1) < 2147483648) ∧ (-2147483648 ≤ (m 94 0) ∧ (m 94 0) < 2147483648) ∧ (m 94 0 ≤ m 94 1 → M_isWhole_30 X d 0 0 none m Q) ∧ (m 94 1 < m 94 0 → M_isWhole_30 X d 1 0 none m Q))) : M_isWhole X d m Q := by
  unfold M_isWhole
  have hV : Clo (gP X.1 X.2.1) d 203 4 false (Rq (gP X.1 X.2.1) d 203 X.2.2.1 X.2.2.2 Q) := Rq_clo (q := mI203) rfl
  refine r_aload_n hV rfl rfl (pc' := 1) rfl ?_
  refine tt_getI hV (tg := 0) (ci := 12) (kf := 23) rfl rfl (by decide) (hB _ _ rfl) rfl (by decide) (pc' := 4) rfl ?_
  obtain ⟨g1, h⟩ := h
  refine tt_if_le hV rfl g1 (pt := 26) (by decide) (pf := 7) rfl (fun hc => ?_) (fun hc => ?_)
  · replace h := h.1 hc
    refine tt_iconst hV rfl (pc' := 27) rfl ?_
    refine tt_istore1 hV rfl rfl (pc' := 28) rfl ?_
    refine tt_iconst hV rfl (pc' := 29) rfl ?_
    refine tt_istore2 hV rfl rfl (pc' := 30) rfl ?_
    exact h
  · replace h := h.2 (Int.not_le.mp hc)
    refine r_aload_n hV rfl rfl (pc' := 8) rfl ?_
    refine tt_getR hV (tg := 6) (ci := 12) (kf := 17) rfl rfl (by decide) (hB _ _ rfl) rfl (by decide) (pc' := 11) rfl ?_
    refine tt_iconst hV rfl (pc' := 12) rfl ?_
    refine q_iald hV rfl (hB _ _ rfl) (Nat.le_of_ble_eq_true rfl) rfl (by decide) (pc' := 13) rfl ?_
    refine r_aload_n hV rfl rfl (pc' := 14) rfl ?_
    refine tt_getR hV (tg := 6) (ci := 12) (kf := 17) rfl rfl (by decide) (hB _ _ rfl) rfl (by decide) (pc' := 17) rfl ?_
    refine tt_iconst hV rfl (pc' := 18) rfl ?_
    refine q_iald hV rfl (hB _ _ rfl) (Nat.le_of_ble_eq_true rfl) rfl (by decide) (pc' := 19) rfl ?_
    obtain ⟨g2, h⟩ := h
    obtain ⟨g3, h⟩ := h
    refine tt_icmp_ge hV rfl g2 g3 (pt := 26) (by decide) (pf := 22) rfl (fun hc => ?_) (fun hc => ?_)
    · replace h := h.1 hc
      refine tt_iconst hV rfl (pc' := 27) rfl ?_
      refine tt_istore1 hV rfl rfl (pc' := 28) rfl ?_
      refine tt_iconst hV rfl (pc' := 29) rfl ?_
      refine tt_istore2 hV rfl rfl (pc' := 30) rfl ?_
      exact h
    · replace h := h.2 (Int.not_le.mp hc)
      refine tt_iconst hV rfl (pc' := 23) rfl ?_
      refine r_goto hV rfl (pc' := 27) (by decide) ?_
      refine tt_istore1 hV rfl rfl (pc' := 28) rfl ?_
      refine tt_iconst hV rfl (pc' := 29) rfl ?_
      refine tt_istore2 hV rfl rfl (pc' := 30) rfl ?_
      exact h
theorem M_isWhole_30w {X : Cx} {d : Nat} {l1 : Int} {l2 : Int} {o3 : Option Int} {m : Mm} {Q : Int → Mm → Prop} (hB : Bsh X.2.2.1) (h : (-2147483648 ≤ l2 ∧ l2 < 2147483648) ∧ (-2147483648 ≤ (m 83 21) ∧ (m 83 21) < 2147483648) ∧ (m 83 21 ≤ l2 → M_isWhole_144 X d l1 0 o3 m Q) ∧ (l2 < m 83 21 → (-2147483648 ≤ l1 ∧ l1 < 2147483648) ∧ (l1 = 0 → M_isWhole_69 X d 0 l2 0 m Q) ∧ (l1 ≠ 0 → (0 ≤ 4 * l2 + 1 ∧ 4 * l2 + 1 < 24) ∧ (-2147483648 ≤ (m 95 (4 * l2 + 1)) ∧ (m 95 (4 * l2 + 1)) < 2147483648) ∧ (-2147483648 ≤ (m 94 0) ∧ (m 94 0) < 2147483648) ∧ (m 94 0 ≤ m 95 (4 * l2 + 1) → M_isWhole_69 X d 0 l2 0 m Q) ∧ (m 95 (4 * l2 + 1) < m 94 0 → M_isWhole_69 X d 1 l2 0 m Q)))) : M_isWhole_30 X d l1 l2 o3 m Q := by
  unfold M_isWhole_30
  have hV : Clo (gP X.1 X.2.1) d 203 4 false (Rq (gP X.1 X.2.1) d 203 X.2.2.1 X.2.2.2 Q) := Rq_clo (q := mI203) rfl
  refine r_iload_n hV rfl rfl (pc' := 31) rfl ?_
  refine r_aload_n hV rfl rfl (pc' := 32) rfl ?_
  refine tt_getI hV (tg := 0) (ci := 12) (kf := 21) rfl rfl (by decide) (hB _ _ rfl) rfl (by decide) (pc' := 35) rfl ?_
  obtain ⟨g4, h⟩ := h
  obtain ⟨g5, h⟩ := h
  refine tt_icmp_ge hV rfl g4 g5 (pt := 142) (by decide) (pf := 38) rfl (fun hc => ?_) (fun hc => ?_)
  · replace h := h.1 hc
    refine tt_iconst hV rfl (pc' := 143) rfl ?_
    refine tt_istore2 hV rfl rfl (pc' := 144) rfl ?_
    exact h
  · replace h := h.2 (Int.not_le.mp hc)
    refine r_iload_n hV rfl rfl (pc' := 39) rfl ?_
    obtain ⟨g6, h⟩ := h
    refine tt_if_eq hV rfl g6 (pt := 65) (by decide) (pf := 42) rfl (fun hc => ?_) (fun hc => ?_)
    · replace h := h.1 hc
      refine tt_iconst hV rfl (pc' := 66) rfl ?_
      refine tt_istore1 hV rfl rfl (pc' := 67) rfl ?_
      refine tt_iconst hV rfl (pc' := 68) rfl ?_
      refine tt_istore3 hV rfl rfl (pc' := 69) rfl ?_
      exact h
    · replace h := h.2 hc
      refine r_aload_n hV rfl rfl (pc' := 43) rfl ?_
      refine tt_getR hV (tg := 6) (ci := 12) (kf := 18) rfl rfl (by decide) (hB _ _ rfl) rfl (by decide) (pc' := 46) rfl ?_
      refine tt_iconst hV rfl (pc' := 47) rfl ?_
      refine r_iload_n hV rfl rfl (pc' := 48) rfl ?_
      refine tt_imul hV rfl (pc' := 49) rfl ?_
      refine tt_iconst hV rfl (pc' := 50) rfl ?_
      refine tt_iadd hV rfl (pc' := 51) rfl ?_
      obtain ⟨g7, h⟩ := h
      refine q_iald hV rfl (hB _ _ rfl) (Nat.le_of_ble_eq_true rfl) rfl g7 (pc' := 52) rfl ?_
      refine r_aload_n hV rfl rfl (pc' := 53) rfl ?_
      refine tt_getR hV (tg := 6) (ci := 12) (kf := 17) rfl rfl (by decide) (hB _ _ rfl) rfl (by decide) (pc' := 56) rfl ?_
      refine tt_iconst hV rfl (pc' := 57) rfl ?_
      refine q_iald hV rfl (hB _ _ rfl) (Nat.le_of_ble_eq_true rfl) rfl (by decide) (pc' := 58) rfl ?_
      obtain ⟨g8, h⟩ := h
      obtain ⟨g9, h⟩ := h
      refine tt_icmp_ge hV rfl g8 g9 (pt := 65) (by decide) (pf := 61) rfl (fun hc => ?_) (fun hc => ?_)
      · replace h := h.1 hc
        refine tt_iconst hV rfl (pc' := 66) rfl ?_
        refine tt_istore1 hV rfl rfl (pc' := 67) rfl ?_
        refine tt_iconst hV rfl (pc' := 68) rfl ?_
        refine tt_istore3 hV rfl rfl (pc' := 69) rfl ?_
        exact h
      · replace h := h.2 (Int.not_le.mp hc)
        refine tt_iconst hV rfl (pc' := 62) rfl ?_
        refine r_goto hV rfl (pc' := 66) (by decide) ?_
        refine tt_istore1 hV rfl rfl (pc' := 67) rfl ?_
        refine tt_iconst hV rfl (pc' := 68) rfl ?_
        refine tt_istore3 hV rfl rfl (pc' := 69) rfl ?_
        exact h
theorem M_isWhole_69w {X : Cx} {d : Nat} {l1 : Int} {l2 : Int} {l3 : Int} {m : Mm} {Q : Int → Mm → Prop} (hB : Bsh X.2.2.1) (h : (-2147483648 ≤ l3 ∧ l3 < 2147483648) ∧ (-2147483648 ≤ l2 ∧ l2 < 2147483648) ∧ (l2 ≤ l3 → M_isWhole_30 X d l1 (l2 + 1) (some l3) m Q) ∧ (l3 < l2 → (-2147483648 ≤ l1 ∧ l1 < 2147483648) ∧ (l1 = 0 → M_isWhole_69 X d 0 l2 (l3 + 1) m Q) ∧ (l1 ≠ 0 → (0 ≤ 4 * l3 ∧ 4 * l3 < 24) ∧ (0 ≤ 4 * l2 ∧ 4 * l2 < 24) ∧ (-2147483648 ≤ (m 95 (4 * l3)) ∧ (m 95 (4 * l3)) < 2147483648) ∧ (-2147483648 ≤ (m 95 (4 * l2)) ∧ (m 95 (4 * l2)) < 2147483648) ∧ (m 95 (4 * l3) ≠ m 95 (4 * l2) → M_isWhole_69 X d 1 l2 (l3 + 1) m Q) ∧ (m 95 (4 * l3) = m 95 (4 * l2) → (0 ≤ 4 * l3 + 1 ∧ 4 * l3 + 1 < 24) ∧ (0 ≤ 4 * l2 + 1 ∧ 4 * l2 + 1 < 24) ∧ (-2147483648 ≤ (m 95 (4 * l3 + 1)) ∧ (m 95 (4 * l3 + 1)) < 2147483648) ∧ (-2147483648 ≤ (m 95 (4 * l2 + 1)) ∧ (m 95 (4 * l2 + 1)) < 2147483648) ∧ (m 95 (4 * l3 + 1) = m 95 (4 * l2 + 1) → M_isWhole_69 X d 0 l2 (l3 + 1) m Q) ∧ (m 95 (4 * l3 + 1) ≠ m 95 (4 * l2 + 1) → M_isWhole_69 X d 1 l2 (l3 + 1) m Q))))) : M_isWhole_69 X d l1 l2 l3 m Q := by
  unfold M_isWhole_69
  have hV : Clo (gP X.1 X.2.1) d 203 4 false (Rq (gP X.1 X.2.1) d 203 X.2.2.1 X.2.2.2 Q) := Rq_clo (q := mI203) rfl
  refine r_iload_n hV rfl rfl (pc' := 70) rfl ?_
  refine r_iload_n hV rfl rfl (pc' := 71) rfl ?_
  obtain ⟨g10, h⟩ := h
  obtain ⟨g11, h⟩ := h
  refine tt_icmp_ge hV rfl g10 g11 (pt := 136) (by decide) (pf := 74) rfl (fun hc => ?_) (fun hc => ?_)
  · replace h := h.1 hc
    refine tt_iinc2 hV rfl rfl (pc' := 139) rfl ?_
    refine r_goto hV rfl (pc' := 30) (by decide) ?_
    exact h
  · replace h := h.2 (Int.not_le.mp hc)
    refine r_iload_n hV rfl rfl (pc' := 75) rfl ?_
    obtain ⟨g12, h⟩ := h
    refine tt_if_eq hV rfl g12 (pt := 128) (by decide) (pf := 78) rfl (fun hc => ?_) (fun hc => ?_)
    · replace h := h.1 hc
      refine tt_iconst hV rfl (pc' := 129) rfl ?_
      refine tt_istore1 hV rfl rfl (pc' := 130) rfl ?_
      refine tt_iinc3 hV rfl rfl (pc' := 133) rfl ?_
      refine r_goto hV rfl (pc' := 69) (by decide) ?_
      exact h
    · replace h := h.2 hc
      refine r_aload_n hV rfl rfl (pc' := 79) rfl ?_
      refine tt_getR hV (tg := 6) (ci := 12) (kf := 18) rfl rfl (by decide) (hB _ _ rfl) rfl (by decide) (pc' := 82) rfl ?_
      refine tt_iconst hV rfl (pc' := 83) rfl ?_
      refine r_iload_n hV rfl rfl (pc' := 84) rfl ?_
      refine tt_imul hV rfl (pc' := 85) rfl ?_
      refine tt_iconst hV rfl (pc' := 86) rfl ?_
      refine tt_iadd hV rfl (pc' := 87) rfl ?_
      refine vtI (y := 4 * l3) (by clear h; omega) ?_
      obtain ⟨g13, h⟩ := h
      refine q_iald hV rfl (hB _ _ rfl) (Nat.le_of_ble_eq_true rfl) rfl g13 (pc' := 88) rfl ?_
      refine r_aload_n hV rfl rfl (pc' := 89) rfl ?_
      refine tt_getR hV (tg := 6) (ci := 12) (kf := 18) rfl rfl (by decide) (hB _ _ rfl) rfl (by decide) (pc' := 92) rfl ?_
      refine tt_iconst hV rfl (pc' := 93) rfl ?_
      refine r_iload_n hV rfl rfl (pc' := 94) rfl ?_
      refine tt_imul hV rfl (pc' := 95) rfl ?_
      refine tt_iconst hV rfl (pc' := 96) rfl ?_
      refine tt_iadd hV rfl (pc' := 97) rfl ?_
      refine vtI (y := 4 * l2) (by clear h; omega) ?_
      obtain ⟨g14, h⟩ := h
      refine q_iald hV rfl (hB _ _ rfl) (Nat.le_of_ble_eq_true rfl) rfl g14 (pc' := 98) rfl ?_
      obtain ⟨g15, h⟩ := h
      obtain ⟨g16, h⟩ := h
      refine tt_icmp_ne hV rfl g15 g16 (pt := 124) (by decide) (pf := 101) rfl (fun hc => ?_) (fun hc => ?_)
      · replace h := h.1 hc
        refine tt_iconst hV rfl (pc' := 125) rfl ?_
        refine r_goto hV rfl (pc' := 129) (by decide) ?_
        refine tt_istore1 hV rfl rfl (pc' := 130) rfl ?_
        refine tt_iinc3 hV rfl rfl (pc' := 133) rfl ?_
        refine r_goto hV rfl (pc' := 69) (by decide) ?_
        exact h
      · replace h := h.2 (Decidable.not_not.mp hc)
        refine r_aload_n hV rfl rfl (pc' := 102) rfl ?_
        refine tt_getR hV (tg := 6) (ci := 12) (kf := 18) rfl rfl (by decide) (hB _ _ rfl) rfl (by decide) (pc' := 105) rfl ?_
        refine tt_iconst hV rfl (pc' := 106) rfl ?_
        refine r_iload_n hV rfl rfl (pc' := 107) rfl ?_
        refine tt_imul hV rfl (pc' := 108) rfl ?_
        refine tt_iconst hV rfl (pc' := 109) rfl ?_
        refine tt_iadd hV rfl (pc' := 110) rfl ?_
        obtain ⟨g17, h⟩ := h
        refine q_iald hV rfl (hB _ _ rfl) (Nat.le_of_ble_eq_true rfl) rfl g17 (pc' := 111) rfl ?_
        refine r_aload_n hV rfl rfl (pc' := 112) rfl ?_
        refine tt_getR hV (tg := 6) (ci := 12) (kf := 18) rfl rfl (by decide) (hB _ _ rfl) rfl (by decide) (pc' := 115) rfl ?_
        refine tt_iconst hV rfl (pc' := 116) rfl ?_
        refine r_iload_n hV rfl rfl (pc' := 117) rfl ?_
        refine tt_imul hV rfl (pc' := 118) rfl ?_
        refine tt_iconst hV rfl (pc' := 119) rfl ?_
        refine tt_iadd hV rfl (pc' := 120) rfl ?_
        obtain ⟨g18, h⟩ := h
        refine q_iald hV rfl (hB _ _ rfl) (Nat.le_of_ble_eq_true rfl) rfl g18 (pc' := 121) rfl ?_
        obtain ⟨g19, h⟩ := h
        obtain ⟨g20, h⟩ := h
        refine tt_icmp_eq hV rfl g19 g20 (pt := 128) (by decide) (pf := 124) rfl (fun hc => ?_) (fun hc => ?_)
        · replace h := h.1 hc
          refine tt_iconst hV rfl (pc' := 129) rfl ?_
          refine tt_istore1 hV rfl rfl (pc' := 130) rfl ?_
          refine tt_iinc3 hV rfl rfl (pc' := 133) rfl ?_
          refine r_goto hV rfl (pc' := 69) (by decide) ?_
          exact h
        · replace h := h.2 hc
          refine tt_iconst hV rfl (pc' := 125) rfl ?_
          refine r_goto hV rfl (pc' := 129) (by decide) ?_
          refine tt_istore1 hV rfl rfl (pc' := 130) rfl ?_
          refine tt_iinc3 hV rfl rfl (pc' := 133) rfl ?_
          refine r_goto hV rfl (pc' := 69) (by decide) ?_
          exact h
theorem M_isWhole_144w {X : Cx} {d : Nat} {l1 : Int} {l2 : Int} {o3 : Option Int} {m : Mm} {Q : Int → Mm → Prop} (hB : Bsh X.2.2.1) (h : (-2147483648 ≤ l2 ∧ l2 < 2147483648) ∧ (-2147483648 ≤ (m 83 22) ∧ (m 83 22) < 2147483648) ∧ (m 83 22 ≤ l2 → (l1 = 0 ∨ l1 = 1) ∧ Q l1 m) ∧ (l2 < m 83 22 → M_isWhole_154 X d l1 l2 0 m Q)) : M_isWhole_144 X d l1 l2 o3 m Q := by
  unfold M_isWhole_144
  have hV : Clo (gP X.1 X.2.1) d 203 4 false (Rq (gP X.1 X.2.1) d 203 X.2.2.1 X.2.2.2 Q) := Rq_clo (q := mI203) rfl
  refine r_iload_n hV rfl rfl (pc' := 145) rfl ?_
  refine r_aload_n hV rfl rfl (pc' := 146) rfl ?_
  refine tt_getI hV (tg := 0) (ci := 12) (kf := 22) rfl rfl (by decide) (hB _ _ rfl) rfl (by decide) (pc' := 149) rfl ?_
  obtain ⟨g21, h⟩ := h
  obtain ⟨g22, h⟩ := h
  refine tt_icmp_ge hV rfl g21 g22 (pt := 196) (by decide) (pf := 152) rfl (fun hc => ?_) (fun hc => ?_)
  · replace h := h.1 hc
    refine r_iload_n hV rfl rfl (pc' := 197) rfl ?_
    obtain ⟨g23, h⟩ := h
    exact rq_ret (q := mI203) rfl rfl (sR_bool g23) h
  · replace h := h.2 (Int.not_le.mp hc)
    refine tt_iconst hV rfl (pc' := 153) rfl ?_
    refine tt_istore3 hV rfl rfl (pc' := 154) rfl ?_
    exact h
theorem M_isWhole_154w {X : Cx} {d : Nat} {l1 : Int} {l2 : Int} {l3 : Int} {m : Mm} {Q : Int → Mm → Prop} (hB : Bsh X.2.2.1) (h : (-2147483648 ≤ l3 ∧ l3 < 2147483648) ∧ (-2147483648 ≤ l2 ∧ l2 < 2147483648) ∧ (l2 ≤ l3 → M_isWhole_144 X d l1 (l2 + 1) (some l3) m Q) ∧ (l3 < l2 → (-2147483648 ≤ l1 ∧ l1 < 2147483648) ∧ (l1 = 0 → M_isWhole_154 X d 0 l2 (l3 + 1) m Q) ∧ (l1 ≠ 0 → (0 ≤ l3 ∧ l3 < 4) ∧ (0 ≤ l2 ∧ l2 < 4) ∧ (-2147483648 ≤ (m 96 l3) ∧ (m 96 l3) < 2147483648) ∧ (-2147483648 ≤ (m 96 l2) ∧ (m 96 l2) < 2147483648) ∧ (m 96 l3 = m 96 l2 → M_isWhole_154 X d 0 l2 (l3 + 1) m Q) ∧ (m 96 l3 ≠ m 96 l2 → M_isWhole_154 X d 1 l2 (l3 + 1) m Q)))) : M_isWhole_154 X d l1 l2 l3 m Q := by
  unfold M_isWhole_154
  have hV : Clo (gP X.1 X.2.1) d 203 4 false (Rq (gP X.1 X.2.1) d 203 X.2.2.1 X.2.2.2 Q) := Rq_clo (q := mI203) rfl
  refine r_iload_n hV rfl rfl (pc' := 155) rfl ?_
  refine r_iload_n hV rfl rfl (pc' := 156) rfl ?_
  obtain ⟨g24, h⟩ := h
  obtain ⟨g25, h⟩ := h
  refine tt_icmp_ge hV rfl g24 g25 (pt := 190) (by decide) (pf := 159) rfl (fun hc => ?_) (fun hc => ?_)
  · replace h := h.1 hc
    refine tt_iinc2 hV rfl rfl (pc' := 193) rfl ?_
    refine r_goto hV rfl (pc' := 144) (by decide) ?_
    exact h
  · replace h := h.2 (Int.not_le.mp hc)
    refine r_iload_n hV rfl rfl (pc' := 160) rfl ?_
    obtain ⟨g26, h⟩ := h
    refine tt_if_eq hV rfl g26 (pt := 182) (by decide) (pf := 163) rfl (fun hc => ?_) (fun hc => ?_)
    · replace h := h.1 hc
      refine tt_iconst hV rfl (pc' := 183) rfl ?_
      refine tt_istore1 hV rfl rfl (pc' := 184) rfl ?_
      refine tt_iinc3 hV rfl rfl (pc' := 187) rfl ?_
      refine r_goto hV rfl (pc' := 154) (by decide) ?_
      exact h
    · replace h := h.2 hc
      refine r_aload_n hV rfl rfl (pc' := 164) rfl ?_
      refine tt_getR hV (tg := 6) (ci := 12) (kf := 19) rfl rfl (by decide) (hB _ _ rfl) rfl (by decide) (pc' := 167) rfl ?_
      refine r_iload_n hV rfl rfl (pc' := 168) rfl ?_
      obtain ⟨g27, h⟩ := h
      refine q_iald hV rfl (hB _ _ rfl) (Nat.le_of_ble_eq_true rfl) rfl g27 (pc' := 169) rfl ?_
      refine r_aload_n hV rfl rfl (pc' := 170) rfl ?_
      refine tt_getR hV (tg := 6) (ci := 12) (kf := 19) rfl rfl (by decide) (hB _ _ rfl) rfl (by decide) (pc' := 173) rfl ?_
      refine r_iload_n hV rfl rfl (pc' := 174) rfl ?_
      obtain ⟨g28, h⟩ := h
      refine q_iald hV rfl (hB _ _ rfl) (Nat.le_of_ble_eq_true rfl) rfl g28 (pc' := 175) rfl ?_
      obtain ⟨g29, h⟩ := h
      obtain ⟨g30, h⟩ := h
      refine tt_icmp_eq hV rfl g29 g30 (pt := 182) (by decide) (pf := 178) rfl (fun hc => ?_) (fun hc => ?_)
      · replace h := h.1 hc
        refine tt_iconst hV rfl (pc' := 183) rfl ?_
        refine tt_istore1 hV rfl rfl (pc' := 184) rfl ?_
        refine tt_iinc3 hV rfl rfl (pc' := 187) rfl ?_
        refine r_goto hV rfl (pc' := 154) (by decide) ?_
        exact h
      · replace h := h.2 hc
        refine tt_iconst hV rfl (pc' := 179) rfl ?_
        refine r_goto hV rfl (pc' := 183) (by decide) ?_
        refine tt_istore1 hV rfl rfl (pc' := 184) rfl ?_
        refine tt_iinc3 hV rfl rfl (pc' := 187) rfl ?_
        refine r_goto hV rfl (pc' := 154) (by decide) ?_
        exact h
theorem M_readCantonw {X : Cx} {d : Nat} {m : Mm} {Q : Int → Mm → Prop} (hB : Bsh X.2.2.1) (h : M_readCanton_29 X (d + 1) 0 0 (up (up (up (up (up m 83 3 0) 83 4 (-1)) 83 21 0) 83 22 0) 83 23 0) Q) : M_readCanton X (d + 1) m Q := by
  unfold M_readCanton
  have hV : Clo (gP X.1 X.2.1) (d + 1) 204 5 false (Rq (gP X.1 X.2.1) (d + 1) 204 X.2.2.1 X.2.2.2 Q) := Rq_clo (q := mI204) rfl
  refine r_aload_n hV rfl rfl (pc' := 1) rfl ?_
  refine tt_iconst hV rfl (pc' := 2) rfl ?_
  refine tt_putI hV (tg := 0) (ci := 12) (kf := 3) rfl rfl (Or.inl rfl) (hB _ _ rfl) rfl (by decide) rfl (pc' := 5) rfl ?_
  refine r_aload_n hV rfl rfl (pc' := 6) rfl ?_
  refine tt_iconst hV rfl (pc' := 7) rfl ?_
  refine tt_putI hV (tg := 0) (ci := 12) (kf := 4) rfl rfl (Or.inl rfl) (hB _ _ rfl) rfl (by decide) rfl (pc' := 10) rfl ?_
  refine r_aload_n hV rfl rfl (pc' := 11) rfl ?_
  refine tt_iconst hV rfl (pc' := 12) rfl ?_
  refine tt_putI hV (tg := 0) (ci := 12) (kf := 21) rfl rfl (Or.inl rfl) (hB _ _ rfl) rfl (by decide) rfl (pc' := 15) rfl ?_
  refine r_aload_n hV rfl rfl (pc' := 16) rfl ?_
  refine tt_iconst hV rfl (pc' := 17) rfl ?_
  refine tt_putI hV (tg := 0) (ci := 12) (kf := 22) rfl rfl (Or.inl rfl) (hB _ _ rfl) rfl (by decide) rfl (pc' := 20) rfl ?_
  refine r_aload_n hV rfl rfl (pc' := 21) rfl ?_
  refine tt_iconst hV rfl (pc' := 22) rfl ?_
  refine tt_putI hV (tg := 0) (ci := 12) (kf := 23) rfl rfl (Or.inl rfl) (hB _ _ rfl) rfl (by decide) rfl (pc' := 25) rfl ?_
  refine tt_iconst hV rfl (pc' := 26) rfl ?_
  refine tt_istore1 hV rfl rfl (pc' := 27) rfl ?_
  refine tt_iconst hV rfl (pc' := 28) rfl ?_
  refine tt_istore2 hV rfl rfl (pc' := 29) rfl ?_
  exact h
theorem M_readCanton_29w {X : Cx} {d : Nat} {l1 : Int} {l2 : Int} {m : Mm} {Q : Int → Mm → Prop} (hB : Bsh X.2.2.1) (h : (-2147483648 ≤ l2 ∧ l2 < 2147483648) ∧ (5 ≤ l2 → M_readCanton_54 X (d + 1) l1 1 none none m Q) ∧ (l2 < 5 → M_usual X d 115 l2 m (fun v42 m42 => (0 ≤ l2 ∧ l2 < 5) ∧ M_readCanton_29 X (d + 1) l1 (l2 + 1) (up m42 94 l2 v42) Q))) : M_readCanton_29 X (d + 1) l1 l2 m Q := by
  unfold M_readCanton_29
  have hV : Clo (gP X.1 X.2.1) (d + 1) 204 5 false (Rq (gP X.1 X.2.1) (d + 1) 204 X.2.2.1 X.2.2.2 Q) := Rq_clo (q := mI204) rfl
  refine r_iload_n hV rfl rfl (pc' := 30) rfl ?_
  refine tt_iconst hV rfl (pc' := 31) rfl ?_
  obtain ⟨g1, h⟩ := h
  refine tt_icmp_ge hV rfl g1 (by decide) (pt := 52) (by decide) (pf := 34) rfl (fun hc => ?_) (fun hc => ?_)
  · replace h := h.1 hc
    refine tt_iconst hV rfl (pc' := 53) rfl ?_
    refine tt_istore2 hV rfl rfl (pc' := 54) rfl ?_
    exact h
  · replace h := h.2 (Int.not_le.mp hc)
    refine r_aload_n hV rfl rfl (pc' := 35) rfl ?_
    refine tt_getR hV (tg := 6) (ci := 12) (kf := 17) rfl rfl (by decide) (hB _ _ rfl) rfl (by decide) (pc' := 38) rfl ?_
    refine r_iload_n hV rfl rfl (pc' := 39) rfl ?_
    refine tt_bipush hV rfl (by decide) (pc' := 41) rfl ?_
    refine r_iload_n hV rfl rfl (pc' := 42) rfl ?_
    obtain ⟨v42, m42, h, hr⟩ := h
    refine tt_cs2I hV rfl rfl rfl (Nat.le_of_ble_eq_true rfl) (Nat.le_of_ble_eq_true rfl) rfl hr (pc' := 45) rfl ?_
    obtain ⟨g2, h⟩ := h
    refine q_iast hV rfl (hB _ _ rfl) (Nat.le_of_ble_eq_true rfl) rfl g2 (pc' := 46) rfl ?_
    refine tt_iinc2 hV rfl rfl (pc' := 49) rfl ?_
    refine r_goto hV rfl (pc' := 29) (by decide) ?_
    exact h
theorem M_readCanton_54w {X : Cx} {d : Nat} {l1 : Int} {l2 : Int} {o3 : Option Int} {o4 : Option Int} {m : Mm} {Q : Int → Mm → Prop} (hB : Bsh X.2.2.1) (h : (-2147483648 ≤ l2 ∧ l2 < 2147483648) ∧ (l2 = 0 → M_readCanton_209 X (d + 1) l1 l2 o3 o4 m Q) ∧ (l2 ≠ 0 → (-2147483648 ≤ (m 83 4) ∧ (m 83 4) < 2147483648) ∧ (m 83 4 ≠ -1 → M_readCanton_209 X (d + 1) l1 l2 o3 o4 m Q) ∧ (m 83 4 = -1 → M_look X d m (fun v67 m67 => (-2147483648 ≤ v67 ∧ v67 < 2147483648) ∧ (v67 ≠ 115 → M_readCanton_81 X (d + 1) l1 l2 v67 o4 m67 Q) ∧ (v67 = 115 → (-2147483648 ≤ l1 ∧ l1 < 2147483648) ∧ (l1 = 0 → M_readCanton_125 X (d + 1) l1 l2 v67 o4 m67 Q) ∧ (l1 ≠ 0 → M_readCanton_81 X (d + 1) l1 l2 v67 o4 m67 Q)))))) : M_readCanton_54 X (d + 1) l1 l2 o3 o4 m Q := by
  unfold M_readCanton_54
  have hV : Clo (gP X.1 X.2.1) (d + 1) 204 5 false (Rq (gP X.1 X.2.1) (d + 1) 204 X.2.2.1 X.2.2.2 Q) := Rq_clo (q := mI204) rfl
  refine r_iload_n hV rfl rfl (pc' := 55) rfl ?_
  obtain ⟨g3, h⟩ := h
  refine tt_if_eq hV rfl g3 (pt := 209) (by decide) (pf := 58) rfl (fun hc => ?_) (fun hc => ?_)
  · replace h := h.1 hc
    exact h
  · replace h := h.2 hc
    refine r_aload_n hV rfl rfl (pc' := 59) rfl ?_
    refine tt_getI hV (tg := 0) (ci := 12) (kf := 4) rfl rfl (by decide) (hB _ _ rfl) rfl (by decide) (pc' := 62) rfl ?_
    refine tt_iconst hV rfl (pc' := 63) rfl ?_
    obtain ⟨g4, h⟩ := h
    refine tt_icmp_ne hV rfl g4 (by decide) (pt := 209) (by decide) (pf := 66) rfl (fun hc => ?_) (fun hc => ?_)
    · replace h := h.1 hc
      exact h
    · replace h := h.2 (Decidable.not_not.mp hc)
      refine r_aload_n hV rfl rfl (pc' := 67) rfl ?_
      obtain ⟨v67, m67, h, hr⟩ := h
      refine tt_cv0I hV rfl rfl rfl (Wd_obj (hB _ _ rfl)) (Nat.le_of_ble_eq_true rfl) (Nat.le_of_ble_eq_true rfl) rfl hr (pc' := 70) rfl ?_
      refine tt_istore3 hV rfl rfl (pc' := 71) rfl ?_
      refine r_iload_n hV rfl rfl (pc' := 72) rfl ?_
      refine tt_bipush hV rfl (by decide) (pc' := 74) rfl ?_
      obtain ⟨g5, h⟩ := h
      refine tt_icmp_ne hV rfl g5 (by decide) (pt := 81) (by decide) (pf := 77) rfl (fun hc => ?_) (fun hc => ?_)
      · replace h := h.1 hc
        exact h
      · replace h := h.2 (Decidable.not_not.mp hc)
        refine r_iload_n hV rfl rfl (pc' := 78) rfl ?_
        obtain ⟨g6, h⟩ := h
        refine tt_if_eq hV rfl g6 (pt := 125) (by decide) (pf := 81) rfl (fun hc => ?_) (fun hc => ?_)
        · replace h := h.1 hc
          exact h
        · replace h := h.2 hc
          exact h
theorem M_readCanton_81w {X : Cx} {d : Nat} {l1 : Int} {l2 : Int} {l3 : Int} {o4 : Option Int} {m : Mm} {Q : Int → Mm → Prop} (hB : Bsh X.2.2.1) (h : (-2147483648 ≤ l3 ∧ l3 < 2147483648) ∧ (l3 ≠ 98 → M_readCanton_96 X (d + 1) l1 l2 l3 o4 m Q) ∧ (l3 = 98 → (-2147483648 ≤ (m 83 21) ∧ (m 83 21) < 2147483648) ∧ (m 83 21 < 6 → M_readCanton_125 X (d + 1) l1 l2 l3 o4 m Q) ∧ (6 ≤ m 83 21 → M_readCanton_96 X (d + 1) l1 l2 l3 o4 m Q))) : M_readCanton_81 X (d + 1) l1 l2 l3 o4 m Q := by
  unfold M_readCanton_81
  have hV : Clo (gP X.1 X.2.1) (d + 1) 204 5 false (Rq (gP X.1 X.2.1) (d + 1) 204 X.2.2.1 X.2.2.2 Q) := Rq_clo (q := mI204) rfl
  refine r_iload_n hV rfl rfl (pc' := 82) rfl ?_
  refine tt_bipush hV rfl (by decide) (pc' := 84) rfl ?_
  obtain ⟨g7, h⟩ := h
  refine tt_icmp_ne hV rfl g7 (by decide) (pt := 96) (by decide) (pf := 87) rfl (fun hc => ?_) (fun hc => ?_)
  · replace h := h.1 hc
    exact h
  · replace h := h.2 (Decidable.not_not.mp hc)
    refine r_aload_n hV rfl rfl (pc' := 88) rfl ?_
    refine tt_getI hV (tg := 0) (ci := 12) (kf := 21) rfl rfl (by decide) (hB _ _ rfl) rfl (by decide) (pc' := 91) rfl ?_
    refine tt_bipush hV rfl (by decide) (pc' := 93) rfl ?_
    obtain ⟨g8, h⟩ := h
    refine tt_icmp_lt hV rfl g8 (by decide) (pt := 125) (by decide) (pf := 96) rfl (fun hc => ?_) (fun hc => ?_)
    · replace h := h.1 hc
      exact h
    · replace h := h.2 (Int.not_lt.mp hc)
      exact h
theorem M_readCanton_96w {X : Cx} {d : Nat} {l1 : Int} {l2 : Int} {l3 : Int} {o4 : Option Int} {m : Mm} {Q : Int → Mm → Prop} (hB : Bsh X.2.2.1) (h : (-2147483648 ≤ l3 ∧ l3 < 2147483648) ∧ (l3 ≠ 105 → M_readCanton_110 X (d + 1) l1 l2 l3 o4 m Q) ∧ (l3 = 105 → (-2147483648 ≤ (m 83 22) ∧ (m 83 22) < 2147483648) ∧ (m 83 22 < 4 → M_readCanton_125 X (d + 1) l1 l2 l3 o4 m Q) ∧ (4 ≤ m 83 22 → M_readCanton_110 X (d + 1) l1 l2 l3 o4 m Q))) : M_readCanton_96 X (d + 1) l1 l2 l3 o4 m Q := by
  unfold M_readCanton_96
  have hV : Clo (gP X.1 X.2.1) (d + 1) 204 5 false (Rq (gP X.1 X.2.1) (d + 1) 204 X.2.2.1 X.2.2.2 Q) := Rq_clo (q := mI204) rfl
  refine r_iload_n hV rfl rfl (pc' := 97) rfl ?_
  refine tt_bipush hV rfl (by decide) (pc' := 99) rfl ?_
  obtain ⟨g9, h⟩ := h
  refine tt_icmp_ne hV rfl g9 (by decide) (pt := 110) (by decide) (pf := 102) rfl (fun hc => ?_) (fun hc => ?_)
  · replace h := h.1 hc
    exact h
  · replace h := h.2 (Decidable.not_not.mp hc)
    refine r_aload_n hV rfl rfl (pc' := 103) rfl ?_
    refine tt_getI hV (tg := 0) (ci := 12) (kf := 22) rfl rfl (by decide) (hB _ _ rfl) rfl (by decide) (pc' := 106) rfl ?_
    refine tt_iconst hV rfl (pc' := 107) rfl ?_
    obtain ⟨g10, h⟩ := h
    refine tt_icmp_lt hV rfl g10 (by decide) (pt := 125) (by decide) (pf := 110) rfl (fun hc => ?_) (fun hc => ?_)
    · replace h := h.1 hc
      exact h
    · replace h := h.2 (Int.not_lt.mp hc)
      exact h
theorem M_readCanton_110w {X : Cx} {d : Nat} {l1 : Int} {l2 : Int} {l3 : Int} {o4 : Option Int} {m : Mm} {Q : Int → Mm → Prop} (hB : Bsh X.2.2.1) (h : (-2147483648 ≤ l3 ∧ l3 < 2147483648) ∧ (l3 ≠ 109 → M_readCanton_129 X (d + 1) l1 l2 l3 o4 m Q) ∧ (l3 = 109 → (-2147483648 ≤ (m 83 23) ∧ (m 83 23) < 2147483648) ∧ (6 ≤ m 83 23 → M_readCanton_129 X (d + 1) l1 l2 l3 o4 m Q) ∧ (m 83 23 < 6 → M_readCanton_125 X (d + 1) l1 l2 l3 o4 m Q))) : M_readCanton_110 X (d + 1) l1 l2 l3 o4 m Q := by
  unfold M_readCanton_110
  have hV : Clo (gP X.1 X.2.1) (d + 1) 204 5 false (Rq (gP X.1 X.2.1) (d + 1) 204 X.2.2.1 X.2.2.2 Q) := Rq_clo (q := mI204) rfl
  refine r_iload_n hV rfl rfl (pc' := 111) rfl ?_
  refine tt_bipush hV rfl (by decide) (pc' := 113) rfl ?_
  obtain ⟨g11, h⟩ := h
  refine tt_icmp_ne hV rfl g11 (by decide) (pt := 129) (by decide) (pf := 116) rfl (fun hc => ?_) (fun hc => ?_)
  · replace h := h.1 hc
    exact h
  · replace h := h.2 (Decidable.not_not.mp hc)
    refine r_aload_n hV rfl rfl (pc' := 117) rfl ?_
    refine tt_getI hV (tg := 0) (ci := 12) (kf := 23) rfl rfl (by decide) (hB _ _ rfl) rfl (by decide) (pc' := 120) rfl ?_
    refine tt_bipush hV rfl (by decide) (pc' := 122) rfl ?_
    obtain ⟨g12, h⟩ := h
    refine tt_icmp_ge hV rfl g12 (by decide) (pt := 129) (by decide) (pf := 125) rfl (fun hc => ?_) (fun hc => ?_)
    · replace h := h.1 hc
      exact h
    · replace h := h.2 (Int.not_le.mp hc)
      exact h
theorem M_readCanton_125w {X : Cx} {d : Nat} {l1 : Int} {l2 : Int} {l3 : Int} {o4 : Option Int} {m : Mm} {Q : Int → Mm → Prop} (hB : Bsh X.2.2.1) (h : (-2147483648 ≤ l1 ∧ l1 < 2147483648) ∧ (l1 ≠ 0 → M_readCanton_147 X (d + 1) l1 l2 l3 1 m Q) ∧ (l1 = 0 → (-2147483648 ≤ l3 ∧ l3 < 2147483648) ∧ (l3 ≠ 115 → M_clauseText X d l3 m (fun m155 => M_readCanton_165 X (d + 1) 0 l2 l3 1 m155 Q)) ∧ (l3 = 115 → M_readCanton_147 X (d + 1) l1 l2 l3 1 m Q))) : M_readCanton_125 X (d + 1) l1 l2 l3 o4 m Q := by
  unfold M_readCanton_125
  have hV : Clo (gP X.1 X.2.1) (d + 1) 204 5 false (Rq (gP X.1 X.2.1) (d + 1) 204 X.2.2.1 X.2.2.2 Q) := Rq_clo (q := mI204) rfl
  refine tt_iconst hV rfl (pc' := 126) rfl ?_
  refine r_goto hV rfl (pc' := 130) (by decide) ?_
  refine tt_istore4 hV rfl rfl (pc' := 132) rfl ?_
  refine r_iload hV rfl rfl (pc' := 134) rfl ?_
  refine tt_if_eq hV rfl (by decide) (pt := 161) (by decide) (pf := 137) rfl (fun hc => absurd hc (by decide)) (fun hc => ?_)
  clear hc
  refine r_iload_n hV rfl rfl (pc' := 138) rfl ?_
  obtain ⟨g13, h⟩ := h
  refine tt_if_ne hV rfl g13 (pt := 147) (by decide) (pf := 141) rfl (fun hc => ?_) (fun hc => ?_)
  · replace h := h.1 hc
    exact h
  · replace h := h.2 (Decidable.not_not.mp hc)
    refine r_iload_n hV rfl rfl (pc' := 142) rfl ?_
    refine tt_bipush hV rfl (by decide) (pc' := 144) rfl ?_
    obtain ⟨g14, h⟩ := h
    refine tt_icmp_ne hV rfl g14 (by decide) (pt := 151) (by decide) (pf := 147) rfl (fun hc => ?_) (fun hc => ?_)
    · replace h := h.1 hc
      refine tt_iconst hV rfl (pc' := 152) rfl ?_
      refine tt_istore1 hV rfl rfl (pc' := 153) rfl ?_
      refine r_aload_n hV rfl rfl (pc' := 154) rfl ?_
      refine r_iload_n hV rfl rfl (pc' := 155) rfl ?_
      obtain ⟨m155, h, hr⟩ := h
      refine tt_cv1U hV rfl rfl rfl (Wd_obj (hB _ _ rfl)) (Nat.le_of_ble_eq_true rfl) (Nat.le_of_ble_eq_true rfl) rfl hr (pc' := 158) rfl ?_
      refine r_goto hV rfl (pc' := 165) (by decide) ?_
      exact h
    · replace h := h.2 (Decidable.not_not.mp hc)
      exact h
theorem M_readCanton_129w {X : Cx} {d : Nat} {l1 : Int} {l2 : Int} {l3 : Int} {o4 : Option Int} {m : Mm} {Q : Int → Mm → Prop} (hB : Bsh X.2.2.1) (h : M_bad X d m (fun m162 => M_readCanton_165 X (d + 1) l1 l2 l3 0 m162 Q)) : M_readCanton_129 X (d + 1) l1 l2 l3 o4 m Q := by
  unfold M_readCanton_129
  have hV : Clo (gP X.1 X.2.1) (d + 1) 204 5 false (Rq (gP X.1 X.2.1) (d + 1) 204 X.2.2.1 X.2.2.2 Q) := Rq_clo (q := mI204) rfl
  refine tt_iconst hV rfl (pc' := 130) rfl ?_
  refine tt_istore4 hV rfl rfl (pc' := 132) rfl ?_
  refine r_iload hV rfl rfl (pc' := 134) rfl ?_
  refine tt_if_eq hV rfl (by decide) (pt := 161) (by decide) (pf := 137) rfl (fun hc => ?_) (fun hc => absurd (by decide) hc)
  clear hc
  refine r_aload_n hV rfl rfl (pc' := 162) rfl ?_
  obtain ⟨m162, h, hr⟩ := h
  refine tt_cv0U hV rfl rfl rfl (Wd_obj (hB _ _ rfl)) (Nat.le_of_ble_eq_true rfl) (Nat.le_of_ble_eq_true rfl) rfl hr (pc' := 165) rfl ?_
  exact h
theorem M_readCanton_147w {X : Cx} {d : Nat} {l1 : Int} {l2 : Int} {l3 : Int} {l4 : Int} {m : Mm} {Q : Int → Mm → Prop} (hB : Bsh X.2.2.1) (h : M_clauseText X d l3 m (fun m155 => M_readCanton_165 X (d + 1) 1 l2 l3 l4 m155 Q)) : M_readCanton_147 X (d + 1) l1 l2 l3 l4 m Q := by
  unfold M_readCanton_147
  have hV : Clo (gP X.1 X.2.1) (d + 1) 204 5 false (Rq (gP X.1 X.2.1) (d + 1) 204 X.2.2.1 X.2.2.2 Q) := Rq_clo (q := mI204) rfl
  refine tt_iconst hV rfl (pc' := 148) rfl ?_
  refine r_goto hV rfl (pc' := 152) (by decide) ?_
  refine tt_istore1 hV rfl rfl (pc' := 153) rfl ?_
  refine r_aload_n hV rfl rfl (pc' := 154) rfl ?_
  refine r_iload_n hV rfl rfl (pc' := 155) rfl ?_
  obtain ⟨m155, h, hr⟩ := h
  refine tt_cv1U hV rfl rfl rfl (Wd_obj (hB _ _ rfl)) (Nat.le_of_ble_eq_true rfl) (Nat.le_of_ble_eq_true rfl) rfl hr (pc' := 158) rfl ?_
  refine r_goto hV rfl (pc' := 165) (by decide) ?_
  exact h
theorem M_readCanton_165w {X : Cx} {d : Nat} {l1 : Int} {l2 : Int} {l3 : Int} {l4 : Int} {m : Mm} {Q : Int → Mm → Prop} (hB : Bsh X.2.2.1) (h : (-2147483648 ≤ (m 83 4) ∧ (m 83 4) < 2147483648) ∧ (m 83 4 ≠ -1 → M_readCanton_186 X (d + 1) l1 l2 l3 l4 m Q) ∧ (m 83 4 = -1 → M_look X d m (fun v174 m174 => (-2147483648 ≤ v174 ∧ v174 < 2147483648) ∧ (v174 ≠ 59 → M_readCanton_186 X (d + 1) l1 l2 l3 l4 m174 Q) ∧ (v174 = 59 → M_readCanton_54 X (d + 1) l1 1 (some l3) (some l4) (up m174 83 3 (m174 83 3 + 1)) Q)))) : M_readCanton_165 X (d + 1) l1 l2 l3 l4 m Q := by
  unfold M_readCanton_165
  have hV : Clo (gP X.1 X.2.1) (d + 1) 204 5 false (Rq (gP X.1 X.2.1) (d + 1) 204 X.2.2.1 X.2.2.2 Q) := Rq_clo (q := mI204) rfl
  refine r_aload_n hV rfl rfl (pc' := 166) rfl ?_
  refine tt_getI hV (tg := 0) (ci := 12) (kf := 4) rfl rfl (by decide) (hB _ _ rfl) rfl (by decide) (pc' := 169) rfl ?_
  refine tt_iconst hV rfl (pc' := 170) rfl ?_
  obtain ⟨g15, h⟩ := h
  refine tt_icmp_ne hV rfl g15 (by decide) (pt := 186) (by decide) (pf := 173) rfl (fun hc => ?_) (fun hc => ?_)
  · replace h := h.1 hc
    exact h
  · replace h := h.2 (Decidable.not_not.mp hc)
    refine r_aload_n hV rfl rfl (pc' := 174) rfl ?_
    obtain ⟨v174, m174, h, hr⟩ := h
    refine tt_cv0I hV rfl rfl rfl (Wd_obj (hB _ _ rfl)) (Nat.le_of_ble_eq_true rfl) (Nat.le_of_ble_eq_true rfl) rfl hr (pc' := 177) rfl ?_
    refine tt_bipush hV rfl (by decide) (pc' := 179) rfl ?_
    obtain ⟨g16, h⟩ := h
    refine tt_icmp_ne hV rfl g16 (by decide) (pt := 186) (by decide) (pf := 182) rfl (fun hc => ?_) (fun hc => ?_)
    · replace h := h.1 hc
      exact h
    · replace h := h.2 (Decidable.not_not.mp hc)
      refine tt_iconst hV rfl (pc' := 183) rfl ?_
      refine r_goto hV rfl (pc' := 187) (by decide) ?_
      refine tt_istore2 hV rfl rfl (pc' := 188) rfl ?_
      refine r_aload_n hV rfl rfl (pc' := 189) rfl ?_
      refine r_dup hV rfl rfl (pc' := 190) rfl ?_
      refine tt_getI hV (tg := 0) (ci := 12) (kf := 3) rfl rfl (by decide) (hB _ _ rfl) rfl (by decide) (pc' := 193) rfl ?_
      refine r_iload_n hV rfl rfl (pc' := 194) rfl ?_
      refine tt_if_eq hV rfl (by decide) (pt := 201) (by decide) (pf := 197) rfl (fun hc => absurd hc (by decide)) (fun hc => ?_)
      clear hc
      refine tt_iconst hV rfl (pc' := 198) rfl ?_
      refine r_goto hV rfl (pc' := 202) (by decide) ?_
      refine tt_iadd hV rfl (pc' := 203) rfl ?_
      refine tt_putI hV (tg := 0) (ci := 12) (kf := 3) rfl rfl (Or.inl rfl) (hB _ _ rfl) rfl (by decide) rfl (pc' := 206) rfl ?_
      refine r_goto hV rfl (pc' := 54) (by decide) ?_
      exact h
theorem M_readCanton_186w {X : Cx} {d : Nat} {l1 : Int} {l2 : Int} {l3 : Int} {l4 : Int} {m : Mm} {Q : Int → Mm → Prop} (hB : Bsh X.2.2.1) (h : M_readCanton_54 X (d + 1) l1 0 (some l3) (some l4) (up m 83 3 (m 83 3)) Q) : M_readCanton_186 X (d + 1) l1 l2 l3 l4 m Q := by
  unfold M_readCanton_186
  have hV : Clo (gP X.1 X.2.1) (d + 1) 204 5 false (Rq (gP X.1 X.2.1) (d + 1) 204 X.2.2.1 X.2.2.2 Q) := Rq_clo (q := mI204) rfl
  refine tt_iconst hV rfl (pc' := 187) rfl ?_
  refine tt_istore2 hV rfl rfl (pc' := 188) rfl ?_
  refine r_aload_n hV rfl rfl (pc' := 189) rfl ?_
  refine r_dup hV rfl rfl (pc' := 190) rfl ?_
  refine tt_getI hV (tg := 0) (ci := 12) (kf := 3) rfl rfl (by decide) (hB _ _ rfl) rfl (by decide) (pc' := 193) rfl ?_
  refine r_iload_n hV rfl rfl (pc' := 194) rfl ?_
  refine tt_if_eq hV rfl (by decide) (pt := 201) (by decide) (pf := 197) rfl (fun hc => ?_) (fun hc => absurd (by decide) hc)
  clear hc
  refine tt_iconst hV rfl (pc' := 202) rfl ?_
  refine tt_iadd hV rfl (pc' := 203) rfl ?_
  refine vtI (y := m 83 3) (by clear h; omega) ?_
  refine tt_putI hV (tg := 0) (ci := 12) (kf := 3) rfl rfl (Or.inl rfl) (hB _ _ rfl) rfl (by decide) rfl (pc' := 206) rfl ?_
  refine r_goto hV rfl (pc' := 54) (by decide) ?_
  exact h
theorem M_readCanton_209w {X : Cx} {d : Nat} {l1 : Int} {l2 : Int} {o3 : Option Int} {o4 : Option Int} {m : Mm} {Q : Int → Mm → Prop} (hB : Bsh X.2.2.1) (h : (-2147483648 ≤ (m 83 4) ∧ (m 83 4) < 2147483648) ∧ (m 83 4 ≠ -1 → Q (m 83 4) m) ∧ (m 83 4 = -1 → M_look X d m (fun v218 m218 => (-2147483648 ≤ v218 ∧ v218 < 2147483648) ∧ (v218 ≠ -1 → M_bad X d m218 (fun m233 => Q (m233 83 4) m233)) ∧ (v218 = -1 → M_isWhole X d m218 (fun v226 m226 => (-2147483648 ≤ v226 ∧ v226 < 2147483648) ∧ (v226 ≠ 0 → Q (m226 83 4) m226) ∧ (v226 = 0 → M_bad X d m226 (fun m233 => Q (m233 83 4) m233))))))) : M_readCanton_209 X (d + 1) l1 l2 o3 o4 m Q := by
  unfold M_readCanton_209
  have hV : Clo (gP X.1 X.2.1) (d + 1) 204 5 false (Rq (gP X.1 X.2.1) (d + 1) 204 X.2.2.1 X.2.2.2 Q) := Rq_clo (q := mI204) rfl
  refine r_aload_n hV rfl rfl (pc' := 210) rfl ?_
  refine tt_getI hV (tg := 0) (ci := 12) (kf := 4) rfl rfl (by decide) (hB _ _ rfl) rfl (by decide) (pc' := 213) rfl ?_
  refine tt_iconst hV rfl (pc' := 214) rfl ?_
  obtain ⟨g17, h⟩ := h
  refine tt_icmp_ne hV rfl g17 (by decide) (pt := 236) (by decide) (pf := 217) rfl (fun hc => ?_) (fun hc => ?_)
  · replace h := h.1 hc
    refine r_aload_n hV rfl rfl (pc' := 237) rfl ?_
    refine tt_getI hV (tg := 0) (ci := 12) (kf := 4) rfl rfl (by decide) (hB _ _ rfl) rfl (by decide) (pc' := 240) rfl ?_
    exact rq_ret (q := mI204) rfl rfl rfl h
  · replace h := h.2 (Decidable.not_not.mp hc)
    refine r_aload_n hV rfl rfl (pc' := 218) rfl ?_
    obtain ⟨v218, m218, h, hr⟩ := h
    refine tt_cv0I hV rfl rfl rfl (Wd_obj (hB _ _ rfl)) (Nat.le_of_ble_eq_true rfl) (Nat.le_of_ble_eq_true rfl) rfl hr (pc' := 221) rfl ?_
    refine tt_iconst hV rfl (pc' := 222) rfl ?_
    obtain ⟨g18, h⟩ := h
    refine tt_icmp_ne hV rfl g18 (by decide) (pt := 232) (by decide) (pf := 225) rfl (fun hc => ?_) (fun hc => ?_)
    · replace h := h.1 hc
      refine r_aload_n hV rfl rfl (pc' := 233) rfl ?_
      obtain ⟨m233, h, hr⟩ := h
      refine tt_cv0U hV rfl rfl rfl (Wd_obj (hB _ _ rfl)) (Nat.le_of_ble_eq_true rfl) (Nat.le_of_ble_eq_true rfl) rfl hr (pc' := 236) rfl ?_
      refine r_aload_n hV rfl rfl (pc' := 237) rfl ?_
      refine tt_getI hV (tg := 0) (ci := 12) (kf := 4) rfl rfl (by decide) (hB _ _ rfl) rfl (by decide) (pc' := 240) rfl ?_
      exact rq_ret (q := mI204) rfl rfl rfl h
    · replace h := h.2 (Decidable.not_not.mp hc)
      refine r_aload_n hV rfl rfl (pc' := 226) rfl ?_
      obtain ⟨v226, m226, h, hr⟩ := h
      refine tt_cv0I hV rfl rfl rfl (Wd_obj (hB _ _ rfl)) (Nat.le_of_ble_eq_true rfl) (Nat.le_of_ble_eq_true rfl) rfl hr (pc' := 229) rfl ?_
      obtain ⟨g19, h⟩ := h
      refine tt_if_ne hV rfl g19 (pt := 236) (by decide) (pf := 232) rfl (fun hc => ?_) (fun hc => ?_)
      · replace h := h.1 hc
        refine r_aload_n hV rfl rfl (pc' := 237) rfl ?_
        refine tt_getI hV (tg := 0) (ci := 12) (kf := 4) rfl rfl (by decide) (hB _ _ rfl) rfl (by decide) (pc' := 240) rfl ?_
        exact rq_ret (q := mI204) rfl rfl rfl h
      · replace h := h.2 (Decidable.not_not.mp hc)
        refine r_aload_n hV rfl rfl (pc' := 233) rfl ?_
        obtain ⟨m233, h, hr⟩ := h
        refine tt_cv0U hV rfl rfl rfl (Wd_obj (hB _ _ rfl)) (Nat.le_of_ble_eq_true rfl) (Nat.le_of_ble_eq_true rfl) rfl hr (pc' := 236) rfl ?_
        refine r_aload_n hV rfl rfl (pc' := 237) rfl ?_
        refine tt_getI hV (tg := 0) (ci := 12) (kf := 4) rfl rfl (by decide) (hB _ _ rfl) rfl (by decide) (pc' := 240) rfl ?_
        exact rq_ret (q := mI204) rfl rfl rfl h
theorem M_faultw {X : Cx} {d : Nat} {x : Int} {m : Mm} {Q : Int → Mm → Prop} (hB : Bsh X.2.2.1) (h : (-2147483648 ≤ x ∧ x < 2147483648) ∧ (x ≠ 0 → (x ≠ 1 → Q (-2) m) ∧ (x = 1 → M_readLaw X d 4 m (fun v18 m18 => Q v18 m18))) ∧ (x = 0 → M_readCanton X d m (fun v5 m5 => Q v5 m5))) : M_fault X (d + 1) x m Q := by
  unfold M_fault
  have hV : Clo (gP X.1 X.2.1) (d + 1) 205 2 false (Rq (gP X.1 X.2.1) (d + 1) 205 X.2.2.1 X.2.2.2 Q) := Rq_clo (q := mI205) rfl
  refine r_iload_n hV rfl rfl (pc' := 1) rfl ?_
  obtain ⟨g1, h⟩ := h
  refine tt_if_ne hV rfl g1 (pt := 11) (by decide) (pf := 4) rfl (fun hc => ?_) (fun hc => ?_)
  · replace h := h.1 hc
    refine r_iload_n hV rfl rfl (pc' := 12) rfl ?_
    refine tt_iconst hV rfl (pc' := 13) rfl ?_
    refine tt_icmp_ne hV rfl g1 (by decide) (pt := 24) (by decide) (pf := 16) rfl (fun hc => ?_) (fun hc => ?_)
    · replace h := h.1 hc
      refine tt_bipush hV rfl (by decide) (pc' := 26) rfl ?_
      exact rq_ret (q := mI205) rfl rfl rfl h
    · replace h := h.2 (Decidable.not_not.mp hc)
      refine r_aload_n hV rfl rfl (pc' := 17) rfl ?_
      refine tt_iconst hV rfl (pc' := 18) rfl ?_
      obtain ⟨v18, m18, h, hr⟩ := h
      refine tt_cv1I hV rfl rfl rfl (Wd_obj (hB _ _ rfl)) (Nat.le_of_ble_eq_true rfl) (Nat.le_of_ble_eq_true rfl) rfl hr (pc' := 21) rfl ?_
      refine r_goto hV rfl (pc' := 26) (by decide) ?_
      exact rq_ret (q := mI205) rfl rfl rfl h
  · replace h := h.2 (Decidable.not_not.mp hc)
    refine r_aload_n hV rfl rfl (pc' := 5) rfl ?_
    obtain ⟨v5, m5, h, hr⟩ := h
    refine tt_cv0I hV rfl rfl rfl (Wd_obj (hB _ _ rfl)) (Nat.le_of_ble_eq_true rfl) (Nat.le_of_ble_eq_true rfl) rfl hr (pc' := 8) rfl ?_
    refine r_goto hV rfl (pc' := 26) (by decide) ?_
    exact rq_ret (q := mI205) rfl rfl rfl h
theorem M_beginw {X : Cx} {d : Nat} {m : Mm} {Q : Mm → Prop} (hB : Bsh X.2.2.1) (h : M_begin_2 X (d + 1) 0 m Q) : M_begin X (d + 1) m Q := by
  unfold M_begin
  have hV : Clo (gP X.1 X.2.1) (d + 1) 206 2 false (Ru0 (gP X.1 X.2.1) (d + 1) 206 X.2.2.1 X.2.2.2 Q) := Ru0_clo (q := mI206) rfl
  refine tt_iconst hV rfl (pc' := 1) rfl ?_
  refine tt_istore1 hV rfl rfl (pc' := 2) rfl ?_
  exact h
theorem M_begin_2w {X : Cx} {d : Nat} {l1 : Int} {m : Mm} {Q : Mm → Prop} (hB : Bsh X.2.2.1) (h : (-2147483648 ≤ l1 ∧ l1 < 2147483648) ∧ (24 ≤ l1 → M_begin_23 X (d + 1) 0 m Q) ∧ (l1 < 24 → (0 ≤ l1 ∧ l1 < 205) ∧ M_begin_2 X (d + 1) (l1 + 1) (up m 101 l1 0) Q)) : M_begin_2 X (d + 1) l1 m Q := by
  unfold M_begin_2
  have hV : Clo (gP X.1 X.2.1) (d + 1) 206 2 false (Ru0 (gP X.1 X.2.1) (d + 1) 206 X.2.2.1 X.2.2.2 Q) := Ru0_clo (q := mI206) rfl
  refine r_iload_n hV rfl rfl (pc' := 3) rfl ?_
  refine tt_bipush hV rfl (by decide) (pc' := 5) rfl ?_
  obtain ⟨g1, h⟩ := h
  refine tt_icmp_ge hV rfl g1 (by decide) (pt := 21) (by decide) (pf := 8) rfl (fun hc => ?_) (fun hc => ?_)
  · replace h := h.1 hc
    refine tt_iconst hV rfl (pc' := 22) rfl ?_
    refine tt_istore1 hV rfl rfl (pc' := 23) rfl ?_
    exact h
  · replace h := h.2 (Int.not_le.mp hc)
    refine r_aload_n hV rfl rfl (pc' := 9) rfl ?_
    refine tt_getR hV (tg := 6) (ci := 12) (kf := 30) rfl rfl (by decide) (hB _ _ rfl) rfl (by decide) (pc' := 12) rfl ?_
    refine r_iload_n hV rfl rfl (pc' := 13) rfl ?_
    refine tt_iconst hV rfl (pc' := 14) rfl ?_
    obtain ⟨g2, h⟩ := h
    refine q_iast hV rfl (hB _ _ rfl) (Nat.le_of_ble_eq_true rfl) rfl g2 (pc' := 15) rfl ?_
    refine tt_iinc1 hV rfl rfl (pc' := 18) rfl ?_
    refine r_goto hV rfl (pc' := 2) (by decide) ?_
    exact h
theorem M_begin_23w {X : Cx} {d : Nat} {l1 : Int} {m : Mm} {Q : Mm → Prop} (hB : Bsh X.2.2.1) (h : (-2147483648 ≤ l1 ∧ l1 < 2147483648) ∧ (-2147483648 ≤ (m 83 28) ∧ (m 83 28) < 2147483648) ∧ (m 83 28 ≤ l1 → Q (up (up m 101 20 (m 98 4)) 101 22 (m 98 1))) ∧ (l1 < m 83 28 → M_of X d l1 1 m (fun v41 m41 => (0 ≤ l1 ∧ l1 < 205) ∧ M_of X d l1 2 (up m41 101 l1 v41) (fun v56 m56 => (0 ≤ l1 + 6 ∧ l1 + 6 < 205) ∧ (0 ≤ l1 + 12 ∧ l1 + 12 < 205) ∧ M_begin_23 X (d + 1) (l1 + 1) (up (up m56 101 (l1 + 6) v56) 101 (l1 + 12) l1) Q)))) : M_begin_23 X (d + 1) l1 m Q := by
  unfold M_begin_23
  have hV : Clo (gP X.1 X.2.1) (d + 1) 206 2 false (Ru0 (gP X.1 X.2.1) (d + 1) 206 X.2.2.1 X.2.2.2 Q) := Ru0_clo (q := mI206) rfl
  refine r_iload_n hV rfl rfl (pc' := 24) rfl ?_
  refine r_aload_n hV rfl rfl (pc' := 25) rfl ?_
  refine tt_getI hV (tg := 0) (ci := 12) (kf := 28) rfl rfl (by decide) (hB _ _ rfl) rfl (by decide) (pc' := 28) rfl ?_
  obtain ⟨g3, h⟩ := h
  obtain ⟨g4, h⟩ := h
  refine tt_icmp_ge hV rfl g3 g4 (pt := 76) (by decide) (pf := 31) rfl (fun hc => ?_) (fun hc => ?_)
  · replace h := h.1 hc
    refine r_aload_n hV rfl rfl (pc' := 77) rfl ?_
    refine tt_getR hV (tg := 6) (ci := 12) (kf := 30) rfl rfl (by decide) (hB _ _ rfl) rfl (by decide) (pc' := 80) rfl ?_
    refine tt_bipush hV rfl (by decide) (pc' := 82) rfl ?_
    refine r_aload_n hV rfl rfl (pc' := 83) rfl ?_
    refine tt_getR hV (tg := 6) (ci := 12) (kf := 24) rfl rfl (by decide) (hB _ _ rfl) rfl (by decide) (pc' := 86) rfl ?_
    refine tt_iconst hV rfl (pc' := 87) rfl ?_
    refine q_iald hV rfl (hB _ _ rfl) (Nat.le_of_ble_eq_true rfl) rfl (by decide) (pc' := 88) rfl ?_
    refine q_iast hV rfl (hB _ _ rfl) (Nat.le_of_ble_eq_true rfl) rfl (by decide) (pc' := 89) rfl ?_
    refine r_aload_n hV rfl rfl (pc' := 90) rfl ?_
    refine tt_getR hV (tg := 6) (ci := 12) (kf := 30) rfl rfl (by decide) (hB _ _ rfl) rfl (by decide) (pc' := 93) rfl ?_
    refine tt_bipush hV rfl (by decide) (pc' := 95) rfl ?_
    refine r_aload_n hV rfl rfl (pc' := 96) rfl ?_
    refine tt_getR hV (tg := 6) (ci := 12) (kf := 24) rfl rfl (by decide) (hB _ _ rfl) rfl (by decide) (pc' := 99) rfl ?_
    refine tt_iconst hV rfl (pc' := 100) rfl ?_
    refine q_iald hV rfl (hB _ _ rfl) (Nat.le_of_ble_eq_true rfl) rfl (by decide) (pc' := 101) rfl ?_
    refine vtI (y := m 98 1) (up_ne (Or.inl (by decide))) ?_
    refine q_iast hV rfl (hB _ _ rfl) (Nat.le_of_ble_eq_true rfl) rfl (by decide) (pc' := 102) rfl ?_
    exact ru0_ret (q := mI206) rfl rfl rfl h
  · replace h := h.2 (Int.not_le.mp hc)
    refine r_aload_n hV rfl rfl (pc' := 32) rfl ?_
    refine tt_getR hV (tg := 6) (ci := 12) (kf := 30) rfl rfl (by decide) (hB _ _ rfl) rfl (by decide) (pc' := 35) rfl ?_
    refine tt_iconst hV rfl (pc' := 36) rfl ?_
    refine r_iload_n hV rfl rfl (pc' := 37) rfl ?_
    refine tt_iadd hV rfl (pc' := 38) rfl ?_
    refine vtI (y := l1) (by clear h; omega) ?_
    refine r_aload_n hV rfl rfl (pc' := 39) rfl ?_
    refine r_iload_n hV rfl rfl (pc' := 40) rfl ?_
    refine tt_iconst hV rfl (pc' := 41) rfl ?_
    obtain ⟨v41, m41, h, hr⟩ := h
    refine tt_cv2I hV rfl rfl rfl (Wd_obj (hB _ _ rfl)) (Nat.le_of_ble_eq_true rfl) (Nat.le_of_ble_eq_true rfl) rfl hr (pc' := 44) rfl ?_
    obtain ⟨g5, h⟩ := h
    refine q_iast hV rfl (hB _ _ rfl) (Nat.le_of_ble_eq_true rfl) rfl g5 (pc' := 45) rfl ?_
    refine r_aload_n hV rfl rfl (pc' := 46) rfl ?_
    refine tt_getR hV (tg := 6) (ci := 12) (kf := 30) rfl rfl (by decide) (hB _ _ rfl) rfl (by decide) (pc' := 49) rfl ?_
    refine tt_bipush hV rfl (by decide) (pc' := 51) rfl ?_
    refine r_iload_n hV rfl rfl (pc' := 52) rfl ?_
    refine tt_iadd hV rfl (pc' := 53) rfl ?_
    refine vtI (y := l1 + 6) (by clear h; omega) ?_
    refine r_aload_n hV rfl rfl (pc' := 54) rfl ?_
    refine r_iload_n hV rfl rfl (pc' := 55) rfl ?_
    refine tt_iconst hV rfl (pc' := 56) rfl ?_
    obtain ⟨v56, m56, h, hr⟩ := h
    refine tt_cv2I hV rfl rfl rfl (Wd_obj (hB _ _ rfl)) (Nat.le_of_ble_eq_true rfl) (Nat.le_of_ble_eq_true rfl) rfl hr (pc' := 59) rfl ?_
    obtain ⟨g6, h⟩ := h
    refine q_iast hV rfl (hB _ _ rfl) (Nat.le_of_ble_eq_true rfl) rfl g6 (pc' := 60) rfl ?_
    refine r_aload_n hV rfl rfl (pc' := 61) rfl ?_
    refine tt_getR hV (tg := 6) (ci := 12) (kf := 30) rfl rfl (by decide) (hB _ _ rfl) rfl (by decide) (pc' := 64) rfl ?_
    refine tt_bipush hV rfl (by decide) (pc' := 66) rfl ?_
    refine r_iload_n hV rfl rfl (pc' := 67) rfl ?_
    refine tt_iadd hV rfl (pc' := 68) rfl ?_
    refine vtI (y := l1 + 12) (by clear h; omega) ?_
    refine r_iload_n hV rfl rfl (pc' := 69) rfl ?_
    obtain ⟨g7, h⟩ := h
    refine q_iast hV rfl (hB _ _ rfl) (Nat.le_of_ble_eq_true rfl) rfl g7 (pc' := 70) rfl ?_
    refine tt_iinc1 hV rfl rfl (pc' := 73) rfl ?_
    refine r_goto hV rfl (pc' := 23) (by decide) ?_
    exact h
theorem M_takeCantonw {X : Cx} {d : Nat} {m : Mm} {Q : Int → Mm → Prop} (hB : Bsh X.2.2.1) (h : M_takeCanton_18 X (d + 1) 0 (up (up m 83 27 (m 83 21)) 83 28 (m 83 23)) Q) : M_takeCanton X (d + 1) m Q := by
  unfold M_takeCanton
  have hV : Clo (gP X.1 X.2.1) (d + 1) 207 2 false (Rq (gP X.1 X.2.1) (d + 1) 207 X.2.2.1 X.2.2.2 Q) := Rq_clo (q := mI207) rfl
  refine r_aload_n hV rfl rfl (pc' := 1) rfl ?_
  refine r_aload_n hV rfl rfl (pc' := 2) rfl ?_
  refine tt_getI hV (tg := 0) (ci := 12) (kf := 21) rfl rfl (by decide) (hB _ _ rfl) rfl (by decide) (pc' := 5) rfl ?_
  refine tt_putI hV (tg := 0) (ci := 12) (kf := 27) rfl rfl (Or.inl rfl) (hB _ _ rfl) rfl (by decide) rfl (pc' := 8) rfl ?_
  refine r_aload_n hV rfl rfl (pc' := 9) rfl ?_
  refine r_aload_n hV rfl rfl (pc' := 10) rfl ?_
  refine tt_getI hV (tg := 0) (ci := 12) (kf := 23) rfl rfl (by decide) (hB _ _ rfl) rfl (by decide) (pc' := 13) rfl ?_
  refine vtI (y := m 83 23) (up_ne (Or.inr (by decide))) ?_
  refine tt_putI hV (tg := 0) (ci := 12) (kf := 28) rfl rfl (Or.inl rfl) (hB _ _ rfl) rfl (by decide) rfl (pc' := 16) rfl ?_
  refine tt_iconst hV rfl (pc' := 17) rfl ?_
  refine tt_istore1 hV rfl rfl (pc' := 18) rfl ?_
  exact h
theorem M_takeCanton_18w {X : Cx} {d : Nat} {l1 : Int} {m : Mm} {Q : Int → Mm → Prop} (hB : Bsh X.2.2.1) (h : (-2147483648 ≤ l1 ∧ l1 < 2147483648) ∧ (5 ≤ l1 → M_takeCanton_43 X (d + 1) 0 m Q) ∧ (l1 < 5 → (0 ≤ l1 ∧ l1 < 5) ∧ M_takeCanton_18 X (d + 1) (l1 + 1) (up m 98 l1 (m 94 l1)) Q)) : M_takeCanton_18 X (d + 1) l1 m Q := by
  unfold M_takeCanton_18
  have hV : Clo (gP X.1 X.2.1) (d + 1) 207 2 false (Rq (gP X.1 X.2.1) (d + 1) 207 X.2.2.1 X.2.2.2 Q) := Rq_clo (q := mI207) rfl
  refine r_iload_n hV rfl rfl (pc' := 19) rfl ?_
  refine tt_iconst hV rfl (pc' := 20) rfl ?_
  obtain ⟨g1, h⟩ := h
  refine tt_icmp_ge hV rfl g1 (by decide) (pt := 41) (by decide) (pf := 23) rfl (fun hc => ?_) (fun hc => ?_)
  · replace h := h.1 hc
    refine tt_iconst hV rfl (pc' := 42) rfl ?_
    refine tt_istore1 hV rfl rfl (pc' := 43) rfl ?_
    exact h
  · replace h := h.2 (Int.not_le.mp hc)
    refine r_aload_n hV rfl rfl (pc' := 24) rfl ?_
    refine tt_getR hV (tg := 6) (ci := 12) (kf := 24) rfl rfl (by decide) (hB _ _ rfl) rfl (by decide) (pc' := 27) rfl ?_
    refine r_iload_n hV rfl rfl (pc' := 28) rfl ?_
    refine r_aload_n hV rfl rfl (pc' := 29) rfl ?_
    refine tt_getR hV (tg := 6) (ci := 12) (kf := 17) rfl rfl (by decide) (hB _ _ rfl) rfl (by decide) (pc' := 32) rfl ?_
    refine r_iload_n hV rfl rfl (pc' := 33) rfl ?_
    obtain ⟨g2, h⟩ := h
    refine q_iald hV rfl (hB _ _ rfl) (Nat.le_of_ble_eq_true rfl) rfl g2 (pc' := 34) rfl ?_
    refine q_iast hV rfl (hB _ _ rfl) (Nat.le_of_ble_eq_true rfl) rfl g2 (pc' := 35) rfl ?_
    refine tt_iinc1 hV rfl rfl (pc' := 38) rfl ?_
    refine r_goto hV rfl (pc' := 18) (by decide) ?_
    exact h
theorem M_takeCanton_43w {X : Cx} {d : Nat} {l1 : Int} {m : Mm} {Q : Int → Mm → Prop} (hB : Bsh X.2.2.1) (h : (-2147483648 ≤ l1 ∧ l1 < 2147483648) ∧ (24 ≤ l1 → M_takeCanton_69 X (d + 1) 0 m Q) ∧ (l1 < 24 → (0 ≤ l1 ∧ l1 < 24) ∧ M_takeCanton_43 X (d + 1) (l1 + 1) (up m 99 l1 (m 95 l1)) Q)) : M_takeCanton_43 X (d + 1) l1 m Q := by
  unfold M_takeCanton_43
  have hV : Clo (gP X.1 X.2.1) (d + 1) 207 2 false (Rq (gP X.1 X.2.1) (d + 1) 207 X.2.2.1 X.2.2.2 Q) := Rq_clo (q := mI207) rfl
  refine r_iload_n hV rfl rfl (pc' := 44) rfl ?_
  refine tt_bipush hV rfl (by decide) (pc' := 46) rfl ?_
  obtain ⟨g3, h⟩ := h
  refine tt_icmp_ge hV rfl g3 (by decide) (pt := 67) (by decide) (pf := 49) rfl (fun hc => ?_) (fun hc => ?_)
  · replace h := h.1 hc
    refine tt_iconst hV rfl (pc' := 68) rfl ?_
    refine tt_istore1 hV rfl rfl (pc' := 69) rfl ?_
    exact h
  · replace h := h.2 (Int.not_le.mp hc)
    refine r_aload_n hV rfl rfl (pc' := 50) rfl ?_
    refine tt_getR hV (tg := 6) (ci := 12) (kf := 25) rfl rfl (by decide) (hB _ _ rfl) rfl (by decide) (pc' := 53) rfl ?_
    refine r_iload_n hV rfl rfl (pc' := 54) rfl ?_
    refine r_aload_n hV rfl rfl (pc' := 55) rfl ?_
    refine tt_getR hV (tg := 6) (ci := 12) (kf := 18) rfl rfl (by decide) (hB _ _ rfl) rfl (by decide) (pc' := 58) rfl ?_
    refine r_iload_n hV rfl rfl (pc' := 59) rfl ?_
    obtain ⟨g4, h⟩ := h
    refine q_iald hV rfl (hB _ _ rfl) (Nat.le_of_ble_eq_true rfl) rfl g4 (pc' := 60) rfl ?_
    refine q_iast hV rfl (hB _ _ rfl) (Nat.le_of_ble_eq_true rfl) rfl g4 (pc' := 61) rfl ?_
    refine tt_iinc1 hV rfl rfl (pc' := 64) rfl ?_
    refine r_goto hV rfl (pc' := 43) (by decide) ?_
    exact h
theorem M_takeCanton_69w {X : Cx} {d : Nat} {l1 : Int} {m : Mm} {Q : Int → Mm → Prop} (hB : Bsh X.2.2.1) (h : (-2147483648 ≤ l1 ∧ l1 < 2147483648) ∧ (24 ≤ l1 → M_takeCanton_100 X (d + 1) 0 (up m 83 29 0) Q) ∧ (l1 < 24 → (0 ≤ l1 ∧ l1 < 24) ∧ M_takeCanton_69 X (d + 1) (l1 + 1) (up m 100 l1 (m 97 l1)) Q)) : M_takeCanton_69 X (d + 1) l1 m Q := by
  unfold M_takeCanton_69
  have hV : Clo (gP X.1 X.2.1) (d + 1) 207 2 false (Rq (gP X.1 X.2.1) (d + 1) 207 X.2.2.1 X.2.2.2 Q) := Rq_clo (q := mI207) rfl
  refine r_iload_n hV rfl rfl (pc' := 70) rfl ?_
  refine tt_bipush hV rfl (by decide) (pc' := 72) rfl ?_
  obtain ⟨g5, h⟩ := h
  refine tt_icmp_ge hV rfl g5 (by decide) (pt := 93) (by decide) (pf := 75) rfl (fun hc => ?_) (fun hc => ?_)
  · replace h := h.1 hc
    refine r_aload_n hV rfl rfl (pc' := 94) rfl ?_
    refine tt_iconst hV rfl (pc' := 95) rfl ?_
    refine tt_putI hV (tg := 0) (ci := 12) (kf := 29) rfl rfl (Or.inl rfl) (hB _ _ rfl) rfl (by decide) rfl (pc' := 98) rfl ?_
    refine tt_iconst hV rfl (pc' := 99) rfl ?_
    refine tt_istore1 hV rfl rfl (pc' := 100) rfl ?_
    exact h
  · replace h := h.2 (Int.not_le.mp hc)
    refine r_aload_n hV rfl rfl (pc' := 76) rfl ?_
    refine tt_getR hV (tg := 6) (ci := 12) (kf := 26) rfl rfl (by decide) (hB _ _ rfl) rfl (by decide) (pc' := 79) rfl ?_
    refine r_iload_n hV rfl rfl (pc' := 80) rfl ?_
    refine r_aload_n hV rfl rfl (pc' := 81) rfl ?_
    refine tt_getR hV (tg := 6) (ci := 12) (kf := 20) rfl rfl (by decide) (hB _ _ rfl) rfl (by decide) (pc' := 84) rfl ?_
    refine r_iload_n hV rfl rfl (pc' := 85) rfl ?_
    obtain ⟨g6, h⟩ := h
    refine q_iald hV rfl (hB _ _ rfl) (Nat.le_of_ble_eq_true rfl) rfl g6 (pc' := 86) rfl ?_
    refine q_iast hV rfl (hB _ _ rfl) (Nat.le_of_ble_eq_true rfl) rfl g6 (pc' := 87) rfl ?_
    refine tt_iinc1 hV rfl rfl (pc' := 90) rfl ?_
    refine r_goto hV rfl (pc' := 69) (by decide) ?_
    exact h
theorem M_takeCanton_100w {X : Cx} {d : Nat} {l1 : Int} {m : Mm} {Q : Int → Mm → Prop} (hB : Bsh X.2.2.1) (h : (-2147483648 ≤ l1 ∧ l1 < 2147483648) ∧ (-2147483648 ≤ (m 83 22) ∧ (m 83 22) < 2147483648) ∧ (m 83 22 ≤ l1 → M_begin X d m (fun m132 => Q (m132 83 28) (up (up (up (up m132 101 24 0) 83 48 0) 83 36 0) 83 52 0))) ∧ (l1 < m 83 22 → (0 ≤ l1 ∧ l1 < 4) ∧ M_takeCanton_100 X (d + 1) (l1 + 1) (up m 83 29 ((iO (m 83 29) ((iSl 1 (m 96 l1)))))) Q)) : M_takeCanton_100 X (d + 1) l1 m Q := by
  unfold M_takeCanton_100
  have hV : Clo (gP X.1 X.2.1) (d + 1) 207 2 false (Rq (gP X.1 X.2.1) (d + 1) 207 X.2.2.1 X.2.2.2 Q) := Rq_clo (q := mI207) rfl
  refine r_iload_n hV rfl rfl (pc' := 101) rfl ?_
  refine r_aload_n hV rfl rfl (pc' := 102) rfl ?_
  refine tt_getI hV (tg := 0) (ci := 12) (kf := 22) rfl rfl (by decide) (hB _ _ rfl) rfl (by decide) (pc' := 105) rfl ?_
  obtain ⟨g7, h⟩ := h
  obtain ⟨g8, h⟩ := h
  refine tt_icmp_ge hV rfl g7 g8 (pt := 131) (by decide) (pf := 108) rfl (fun hc => ?_) (fun hc => ?_)
  · replace h := h.1 hc
    refine r_aload_n hV rfl rfl (pc' := 132) rfl ?_
    obtain ⟨m132, h, hr⟩ := h
    refine tt_cv0U hV rfl rfl rfl (Wd_obj (hB _ _ rfl)) (Nat.le_of_ble_eq_true rfl) (Nat.le_of_ble_eq_true rfl) rfl hr (pc' := 135) rfl ?_
    refine r_aload_n hV rfl rfl (pc' := 136) rfl ?_
    refine tt_getR hV (tg := 6) (ci := 12) (kf := 30) rfl rfl (by decide) (hB _ _ rfl) rfl (by decide) (pc' := 139) rfl ?_
    refine tt_bipush hV rfl (by decide) (pc' := 141) rfl ?_
    refine tt_iconst hV rfl (pc' := 142) rfl ?_
    refine q_iast hV rfl (hB _ _ rfl) (Nat.le_of_ble_eq_true rfl) rfl (by decide) (pc' := 143) rfl ?_
    refine r_aload_n hV rfl rfl (pc' := 144) rfl ?_
    refine tt_iconst hV rfl (pc' := 145) rfl ?_
    refine tt_putI hV (tg := 0) (ci := 12) (kf := 48) rfl rfl (Or.inl rfl) (hB _ _ rfl) rfl (by decide) rfl (pc' := 148) rfl ?_
    refine r_aload_n hV rfl rfl (pc' := 149) rfl ?_
    refine tt_iconst hV rfl (pc' := 150) rfl ?_
    refine tt_putI hV (tg := 0) (ci := 12) (kf := 36) rfl rfl (Or.inl rfl) (hB _ _ rfl) rfl (by decide) rfl (pc' := 153) rfl ?_
    refine r_aload_n hV rfl rfl (pc' := 154) rfl ?_
    refine tt_iconst hV rfl (pc' := 155) rfl ?_
    refine tt_putZ hV (tg := 0) (ci := 12) (kf := 52) rfl rfl (Or.inl rfl) (hB _ _ rfl) rfl (by decide) rfl (by decide) (pc' := 158) rfl ?_
    refine r_aload_n hV rfl rfl (pc' := 159) rfl ?_
    refine tt_getI hV (tg := 0) (ci := 12) (kf := 28) rfl rfl (by decide) (hB _ _ rfl) rfl (by decide) (pc' := 162) rfl ?_
    refine vtI (y := m132 83 28) ((up_ne (Or.inr (by decide))).trans ((up_ne (Or.inr (by decide))).trans ((up_ne (Or.inr (by decide))).trans (up_ne (Or.inl (by decide)))))) ?_
    exact rq_ret (q := mI207) rfl rfl rfl h
  · replace h := h.2 (Int.not_le.mp hc)
    refine r_aload_n hV rfl rfl (pc' := 109) rfl ?_
    refine r_dup hV rfl rfl (pc' := 110) rfl ?_
    refine tt_getI hV (tg := 0) (ci := 12) (kf := 29) rfl rfl (by decide) (hB _ _ rfl) rfl (by decide) (pc' := 113) rfl ?_
    refine tt_iconst hV rfl (pc' := 114) rfl ?_
    refine r_aload_n hV rfl rfl (pc' := 115) rfl ?_
    refine tt_getR hV (tg := 6) (ci := 12) (kf := 19) rfl rfl (by decide) (hB _ _ rfl) rfl (by decide) (pc' := 118) rfl ?_
    refine r_iload_n hV rfl rfl (pc' := 119) rfl ?_
    obtain ⟨g9, h⟩ := h
    refine q_iald hV rfl (hB _ _ rfl) (Nat.le_of_ble_eq_true rfl) rfl g9 (pc' := 120) rfl ?_
    refine tt_ishl hV rfl (pc' := 121) rfl ?_
    refine tt_ior hV rfl (pc' := 122) rfl ?_
    refine tt_putI hV (tg := 0) (ci := 12) (kf := 29) rfl rfl (Or.inl rfl) (hB _ _ rfl) rfl (by decide) rfl (pc' := 125) rfl ?_
    refine tt_iinc1 hV rfl rfl (pc' := 128) rfl ?_
    refine r_goto hV rfl (pc' := 100) (by decide) ?_
    exact h
theorem M_textw {X : Cx} {d : Nat} {x : Int} {m : Mm} {Q : Int → Mm → Prop} (hB : Bsh X.2.2.1) (h : (-2147483648 ≤ x ∧ x < 2147483648) ∧ (x ≠ 0 → M_text_22 X (d + 1) x m Q) ∧ (x = 0 → M_readCanton X d m (fun v5 m5 => (-2147483648 ≤ v5 ∧ v5 < 2147483648) ∧ (v5 ≠ -1 → M_text_22 X (d + 1) x m5 Q) ∧ (v5 = -1 → M_takeCanton X d (up m5 83 2 0) (fun v18 m18 => Q v18 m18))))) : M_text X (d + 1) x m Q := by
  unfold M_text
  have hV : Clo (gP X.1 X.2.1) (d + 1) 208 2 false (Rq (gP X.1 X.2.1) (d + 1) 208 X.2.2.1 X.2.2.2 Q) := Rq_clo (q := mI208) rfl
  refine r_iload_n hV rfl rfl (pc' := 1) rfl ?_
  obtain ⟨g1, h⟩ := h
  refine tt_if_ne hV rfl g1 (pt := 22) (by decide) (pf := 4) rfl (fun hc => ?_) (fun hc => ?_)
  · replace h := h.1 hc
    exact h
  · replace h := h.2 (Decidable.not_not.mp hc)
    refine r_aload_n hV rfl rfl (pc' := 5) rfl ?_
    obtain ⟨v5, m5, h, hr⟩ := h
    refine tt_cv0I hV rfl rfl rfl (Wd_obj (hB _ _ rfl)) (Nat.le_of_ble_eq_true rfl) (Nat.le_of_ble_eq_true rfl) rfl hr (pc' := 8) rfl ?_
    refine tt_iconst hV rfl (pc' := 9) rfl ?_
    obtain ⟨g2, h⟩ := h
    refine tt_icmp_ne hV rfl g2 (by decide) (pt := 22) (by decide) (pf := 12) rfl (fun hc => ?_) (fun hc => ?_)
    · replace h := h.1 hc
      exact h
    · replace h := h.2 (Decidable.not_not.mp hc)
      refine r_aload_n hV rfl rfl (pc' := 13) rfl ?_
      refine tt_iconst hV rfl (pc' := 14) rfl ?_
      refine tt_putI hV (tg := 0) (ci := 12) (kf := 2) rfl rfl (Or.inl rfl) (hB _ _ rfl) rfl (by decide) rfl (pc' := 17) rfl ?_
      refine r_aload_n hV rfl rfl (pc' := 18) rfl ?_
      obtain ⟨v18, m18, h, hr⟩ := h
      refine tt_cv0I hV rfl rfl rfl (Wd_obj (hB _ _ rfl)) (Nat.le_of_ble_eq_true rfl) (Nat.le_of_ble_eq_true rfl) rfl hr (pc' := 21) rfl ?_
      exact rq_ret (q := mI208) rfl rfl rfl h
theorem M_text_22w {X : Cx} {d : Nat} {x : Int} {m : Mm} {Q : Int → Mm → Prop} (hB : Bsh X.2.2.1) (h : (-2147483648 ≤ x ∧ x < 2147483648) ∧ (x ≠ 1 → Q (-1) m) ∧ (x = 1 → (-2147483648 ≤ (m 83 13) ∧ (m 83 13) < 2147483648) ∧ (4 ≤ m 83 13 → Q (-1) m) ∧ (m 83 13 < 4 → M_readLaw X d (m 83 13) m (fun v40 m40 => (-2147483648 ≤ v40 ∧ v40 < 2147483648) ∧ (v40 ≠ -1 → Q (-1) m40) ∧ (v40 = -1 → Q (m40 83 13) (up (up m40 83 2 0) 83 13 (m40 83 13 + 1))))))) : M_text_22 X (d + 1) x m Q := by
  unfold M_text_22
  have hV : Clo (gP X.1 X.2.1) (d + 1) 208 2 false (Rq (gP X.1 X.2.1) (d + 1) 208 X.2.2.1 X.2.2.2 Q) := Rq_clo (q := mI208) rfl
  refine r_iload_n hV rfl rfl (pc' := 23) rfl ?_
  refine tt_iconst hV rfl (pc' := 24) rfl ?_
  obtain ⟨g3, h⟩ := h
  refine tt_icmp_ne hV rfl g3 (by decide) (pt := 69) (by decide) (pf := 27) rfl (fun hc => ?_) (fun hc => ?_)
  · replace h := h.1 hc
    refine tt_iconst hV rfl (pc' := 70) rfl ?_
    exact rq_ret (q := mI208) rfl rfl rfl h
  · replace h := h.2 (Decidable.not_not.mp hc)
    refine r_aload_n hV rfl rfl (pc' := 28) rfl ?_
    refine tt_getI hV (tg := 0) (ci := 12) (kf := 13) rfl rfl (by decide) (hB _ _ rfl) rfl (by decide) (pc' := 31) rfl ?_
    refine tt_iconst hV rfl (pc' := 32) rfl ?_
    obtain ⟨g4, h⟩ := h
    refine tt_icmp_ge hV rfl g4 (by decide) (pt := 69) (by decide) (pf := 35) rfl (fun hc => ?_) (fun hc => ?_)
    · replace h := h.1 hc
      refine tt_iconst hV rfl (pc' := 70) rfl ?_
      exact rq_ret (q := mI208) rfl rfl rfl h
    · replace h := h.2 (Int.not_le.mp hc)
      refine r_aload_n hV rfl rfl (pc' := 36) rfl ?_
      refine r_aload_n hV rfl rfl (pc' := 37) rfl ?_
      refine tt_getI hV (tg := 0) (ci := 12) (kf := 13) rfl rfl (by decide) (hB _ _ rfl) rfl (by decide) (pc' := 40) rfl ?_
      obtain ⟨v40, m40, h, hr⟩ := h
      refine tt_cv1I hV rfl rfl rfl (Wd_obj (hB _ _ rfl)) (Nat.le_of_ble_eq_true rfl) (Nat.le_of_ble_eq_true rfl) rfl hr (pc' := 43) rfl ?_
      refine tt_iconst hV rfl (pc' := 44) rfl ?_
      obtain ⟨g5, h⟩ := h
      refine tt_icmp_ne hV rfl g5 (by decide) (pt := 69) (by decide) (pf := 47) rfl (fun hc => ?_) (fun hc => ?_)
      · replace h := h.1 hc
        refine tt_iconst hV rfl (pc' := 70) rfl ?_
        exact rq_ret (q := mI208) rfl rfl rfl h
      · replace h := h.2 (Decidable.not_not.mp hc)
        refine r_aload_n hV rfl rfl (pc' := 48) rfl ?_
        refine tt_iconst hV rfl (pc' := 49) rfl ?_
        refine tt_putI hV (tg := 0) (ci := 12) (kf := 2) rfl rfl (Or.inl rfl) (hB _ _ rfl) rfl (by decide) rfl (pc' := 52) rfl ?_
        refine r_aload_n hV rfl rfl (pc' := 53) rfl ?_
        refine r_dup hV rfl rfl (pc' := 54) rfl ?_
        refine tt_getI hV (tg := 0) (ci := 12) (kf := 13) rfl rfl (by decide) (hB _ _ rfl) rfl (by decide) (pc' := 57) rfl ?_
        refine vtI (y := m40 83 13) (up_ne (Or.inr (by decide))) ?_
        refine tt_iconst hV rfl (pc' := 58) rfl ?_
        refine tt_iadd hV rfl (pc' := 59) rfl ?_
        refine tt_putI hV (tg := 0) (ci := 12) (kf := 13) rfl rfl (Or.inl rfl) (hB _ _ rfl) rfl (by decide) rfl (pc' := 62) rfl ?_
        refine r_aload_n hV rfl rfl (pc' := 63) rfl ?_
        refine tt_getI hV (tg := 0) (ci := 12) (kf := 13) rfl rfl (by decide) (hB _ _ rfl) rfl (by decide) (pc' := 66) rfl ?_
        refine vtI (y := m40 83 13 + 1) (up_same _ _ _ _) ?_
        refine tt_iconst hV rfl (pc' := 67) rfl ?_
        refine tt_isub hV rfl (pc' := 68) rfl ?_
        refine vtI (y := m40 83 13) (by clear h; omega) ?_
        exact rq_ret (q := mI208) rfl rfl rfl h
theorem M_ofw {X : Cx} {d : Nat} {x : Int} {y : Int} {m : Mm} {Q : Int → Mm → Prop} (hB : Bsh X.2.2.1) (h : (0 ≤ 4 * x + y ∧ 4 * x + y < 24) ∧ Q (m 100 (4 * x + y)) m) : M_of X d x y m Q := by
  unfold M_of
  have hV : Clo (gP X.1 X.2.1) d 209 3 false (Rq (gP X.1 X.2.1) d 209 X.2.2.1 X.2.2.2 Q) := Rq_clo (q := mI209) rfl
  refine r_aload_n hV rfl rfl (pc' := 1) rfl ?_
  refine tt_getR hV (tg := 6) (ci := 12) (kf := 26) rfl rfl (by decide) (hB _ _ rfl) rfl (by decide) (pc' := 4) rfl ?_
  refine tt_iconst hV rfl (pc' := 5) rfl ?_
  refine r_iload_n hV rfl rfl (pc' := 6) rfl ?_
  refine tt_imul hV rfl (pc' := 7) rfl ?_
  refine r_iload_n hV rfl rfl (pc' := 8) rfl ?_
  refine tt_iadd hV rfl (pc' := 9) rfl ?_
  obtain ⟨g1, h⟩ := h
  refine q_iald hV rfl (hB _ _ rfl) (Nat.le_of_ble_eq_true rfl) rfl g1 (pc' := 10) rfl ?_
  exact rq_ret (q := mI209) rfl rfl rfl h
theorem M_ofBumpw {X : Cx} {d : Nat} {x : Int} {y : Int} {m : Mm} {Q : Int → Mm → Prop} (hB : Bsh X.2.2.1) (h : (0 ≤ 4 * x + y ∧ 4 * x + y < 24) ∧ Q (m 99 (4 * x + y)) m) : M_ofBump X d x y m Q := by
  unfold M_ofBump
  have hV : Clo (gP X.1 X.2.1) d 210 3 false (Rq (gP X.1 X.2.1) d 210 X.2.2.1 X.2.2.2 Q) := Rq_clo (q := mI210) rfl
  refine r_aload_n hV rfl rfl (pc' := 1) rfl ?_
  refine tt_getR hV (tg := 6) (ci := 12) (kf := 25) rfl rfl (by decide) (hB _ _ rfl) rfl (by decide) (pc' := 4) rfl ?_
  refine tt_iconst hV rfl (pc' := 5) rfl ?_
  refine r_iload_n hV rfl rfl (pc' := 6) rfl ?_
  refine tt_imul hV rfl (pc' := 7) rfl ?_
  refine r_iload_n hV rfl rfl (pc' := 8) rfl ?_
  refine tt_iadd hV rfl (pc' := 9) rfl ?_
  obtain ⟨g1, h⟩ := h
  refine q_iald hV rfl (hB _ _ rfl) (Nat.le_of_ble_eq_true rfl) rfl g1 (pc' := 10) rfl ?_
  exact rq_ret (q := mI210) rfl rfl rfl h
theorem M_isMemberw {X : Cx} {d : Nat} {x : Int} {m : Mm} {Q : Int → Mm → Prop} (hB : Bsh X.2.2.1) (h : M_in X d x 0 (m 83 28 - 1) m (fun v8 m8 => (v8 = 0 ∨ v8 = 1) ∧ Q v8 m8)) : M_isMember X (d + 1) x m Q := by
  unfold M_isMember
  have hV : Clo (gP X.1 X.2.1) (d + 1) 211 2 false (Rq (gP X.1 X.2.1) (d + 1) 211 X.2.2.1 X.2.2.2 Q) := Rq_clo (q := mI211) rfl
  refine r_iload_n hV rfl rfl (pc' := 1) rfl ?_
  refine tt_iconst hV rfl (pc' := 2) rfl ?_
  refine r_aload_n hV rfl rfl (pc' := 3) rfl ?_
  refine tt_getI hV (tg := 0) (ci := 12) (kf := 28) rfl rfl (by decide) (hB _ _ rfl) rfl (by decide) (pc' := 6) rfl ?_
  refine tt_iconst hV rfl (pc' := 7) rfl ?_
  refine tt_isub hV rfl (pc' := 8) rfl ?_
  obtain ⟨v8, m8, h, hr⟩ := h
  refine tt_cs3I hV rfl rfl rfl (Nat.le_of_ble_eq_true rfl) (Nat.le_of_ble_eq_true rfl) rfl hr (pc' := 11) rfl ?_
  obtain ⟨g1, h⟩ := h
  exact rq_ret (q := mI211) rfl rfl (sR_bool g1) h
theorem M_isBumpw {X : Cx} {d : Nat} {x : Int} {m : Mm} {Q : Int → Mm → Prop} (hB : Bsh X.2.2.1) (h : M_in X d x 0 (m 83 27 - 1) m (fun v8 m8 => (v8 = 0 ∨ v8 = 1) ∧ Q v8 m8)) : M_isBump X (d + 1) x m Q := by
  unfold M_isBump
  have hV : Clo (gP X.1 X.2.1) (d + 1) 212 2 false (Rq (gP X.1 X.2.1) (d + 1) 212 X.2.2.1 X.2.2.2 Q) := Rq_clo (q := mI212) rfl
  refine r_iload_n hV rfl rfl (pc' := 1) rfl ?_
  refine tt_iconst hV rfl (pc' := 2) rfl ?_
  refine r_aload_n hV rfl rfl (pc' := 3) rfl ?_
  refine tt_getI hV (tg := 0) (ci := 12) (kf := 27) rfl rfl (by decide) (hB _ _ rfl) rfl (by decide) (pc' := 6) rfl ?_
  refine tt_iconst hV rfl (pc' := 7) rfl ?_
  refine tt_isub hV rfl (pc' := 8) rfl ?_
  obtain ⟨v8, m8, h, hr⟩ := h
  refine tt_cs3I hV rfl rfl rfl (Nat.le_of_ble_eq_true rfl) (Nat.le_of_ble_eq_true rfl) rfl hr (pc' := 11) rfl ?_
  obtain ⟨g1, h⟩ := h
  exact rq_ret (q := mI212) rfl rfl (sR_bool g1) h
theorem M_isOnw {X : Cx} {d : Nat} {x : Int} {m : Mm} {Q : Int → Mm → Prop} (hB : Bsh X.2.2.1) (h : M_has X d (m 101 18) x m (fun v8 m8 => (-2147483648 ≤ v8 ∧ v8 < 2147483648) ∧ (v8 ≠ 0 → Q 0 m8) ∧ (v8 = 0 → Q 1 m8))) : M_isOn X (d + 1) x m Q := by
  unfold M_isOn
  have hV : Clo (gP X.1 X.2.1) (d + 1) 213 2 false (Rq (gP X.1 X.2.1) (d + 1) 213 X.2.2.1 X.2.2.2 Q) := Rq_clo (q := mI213) rfl
  refine r_aload_n hV rfl rfl (pc' := 1) rfl ?_
  refine tt_getR hV (tg := 6) (ci := 12) (kf := 30) rfl rfl (by decide) (hB _ _ rfl) rfl (by decide) (pc' := 4) rfl ?_
  refine tt_bipush hV rfl (by decide) (pc' := 6) rfl ?_
  refine q_iald hV rfl (hB _ _ rfl) (Nat.le_of_ble_eq_true rfl) rfl (by decide) (pc' := 7) rfl ?_
  refine r_iload_n hV rfl rfl (pc' := 8) rfl ?_
  obtain ⟨v8, m8, h, hr⟩ := h
  refine tt_cs2I hV rfl rfl rfl (Nat.le_of_ble_eq_true rfl) (Nat.le_of_ble_eq_true rfl) rfl hr (pc' := 11) rfl ?_
  obtain ⟨g1, h⟩ := h
  refine tt_if_ne hV rfl g1 (pt := 18) (by decide) (pf := 14) rfl (fun hc => ?_) (fun hc => ?_)
  · replace h := h.1 hc
    refine tt_iconst hV rfl (pc' := 19) rfl ?_
    exact rq_ret (q := mI213) rfl rfl rfl h
  · replace h := h.2 (Decidable.not_not.mp hc)
    refine tt_iconst hV rfl (pc' := 15) rfl ?_
    refine r_goto hV rfl (pc' := 19) (by decide) ?_
    exact rq_ret (q := mI213) rfl rfl rfl h
theorem M_everybodyw {X : Cx} {d : Nat} {m : Mm} {Q : Int → Mm → Prop} (hB : Bsh X.2.2.1) (h : Q ((iSl 1 (m 83 28)) - 1) m) : M_everybody X d m Q := by
  unfold M_everybody
  have hV : Clo (gP X.1 X.2.1) d 214 1 false (Rq (gP X.1 X.2.1) d 214 X.2.2.1 X.2.2.2 Q) := Rq_clo (q := mI214) rfl
  refine tt_iconst hV rfl (pc' := 1) rfl ?_
  refine r_aload_n hV rfl rfl (pc' := 2) rfl ?_
  refine tt_getI hV (tg := 0) (ci := 12) (kf := 28) rfl rfl (by decide) (hB _ _ rfl) rfl (by decide) (pc' := 5) rfl ?_
  refine tt_ishl hV rfl (pc' := 6) rfl ?_
  refine tt_iconst hV rfl (pc' := 7) rfl ?_
  refine tt_isub hV rfl (pc' := 8) rfl ?_
  exact rq_ret (q := mI214) rfl rfl rfl h
theorem M_pushOfw {X : Cx} {d : Nat} {x : Int} {m : Mm} {Q : Int → Mm → Prop} (hB : Bsh X.2.2.1) (h : M_of X d x 0 m (fun v3 m3 => (-2147483648 ≤ (m3 83 32) ∧ (m3 83 32) < 2147483648) ∧ (m3 83 32 = -1 → (-2147483648 ≤ v3 ∧ v3 < 2147483648) ∧ (-2147483648 ≤ ((min 99 v3)) ∧ ((min 99 v3)) < 2147483648) ∧ Q ((max 0 ((min 99 v3)))) m3) ∧ (m3 83 32 ≠ -1 → M_of X d x 0 m3 (fun v23 m23 => (0 ≤ x + 6 ∧ x + 6 < 205) ∧ (0 ≤ x + 12 ∧ x + 12 < 205) ∧ J_bitCount X d (m23 101 18) (up (up (up m23 92 0 v23) 92 1 (m23 101 (x + 6))) 92 2 (m23 101 (x + 12))) (fun v73 m73 => M_worthOf X d (m73 83 32) (up (up (up m73 92 3 (m23 83 28 - v73)) 92 4 (m73 101 21)) 92 5 (m73 101 22)) (fun v109 m109 => (-2147483648 ≤ v109 ∧ v109 < 2147483648) ∧ (-2147483648 ≤ ((min 99 v109)) ∧ ((min 99 v109)) < 2147483648) ∧ Q ((max 0 ((min 99 v109)))) m109)))))) : M_pushOf X (d + 1) x m Q := by
  unfold M_pushOf
  have hV : Clo (gP X.1 X.2.1) (d + 1) 215 3 false (Rq (gP X.1 X.2.1) (d + 1) 215 X.2.2.1 X.2.2.2 Q) := Rq_clo (q := mI215) rfl
  refine r_aload_n hV rfl rfl (pc' := 1) rfl ?_
  refine r_iload_n hV rfl rfl (pc' := 2) rfl ?_
  refine tt_iconst hV rfl (pc' := 3) rfl ?_
  obtain ⟨v3, m3, h, hr⟩ := h
  refine tt_cv2I hV rfl rfl rfl (Wd_obj (hB _ _ rfl)) (Nat.le_of_ble_eq_true rfl) (Nat.le_of_ble_eq_true rfl) rfl hr (pc' := 6) rfl ?_
  refine tt_istore2 hV rfl rfl (pc' := 7) rfl ?_
  refine r_aload_n hV rfl rfl (pc' := 8) rfl ?_
  refine tt_getI hV (tg := 0) (ci := 12) (kf := 32) rfl rfl (by decide) (hB _ _ rfl) rfl (by decide) (pc' := 11) rfl ?_
  refine tt_iconst hV rfl (pc' := 12) rfl ?_
  obtain ⟨g1, h⟩ := h
  refine tt_icmp_eq hV rfl g1 (by decide) (pt := 113) (by decide) (pf := 15) rfl (fun hc => ?_) (fun hc => ?_)
  · replace h := h.1 hc
    refine tt_iconst hV rfl (pc' := 114) rfl ?_
    refine tt_bipush hV rfl (by decide) (pc' := 116) rfl ?_
    refine r_iload_n hV rfl rfl (pc' := 117) rfl ?_
    obtain ⟨g2, h⟩ := h
    refine tt_min hV rfl rfl rfl (by decide) g2 (Nat.le_of_ble_eq_true rfl) (pc' := 120) rfl ?_
    obtain ⟨g3, h⟩ := h
    refine tt_max hV rfl rfl rfl (by decide) g3 (Nat.le_of_ble_eq_true rfl) (pc' := 123) rfl ?_
    exact rq_ret (q := mI215) rfl rfl rfl h
  · replace h := h.2 hc
    refine r_aload_n hV rfl rfl (pc' := 16) rfl ?_
    refine tt_getR hV (tg := 6) (ci := 12) (kf := 15) rfl rfl (by decide) (hB _ _ rfl) rfl (by decide) (pc' := 19) rfl ?_
    refine tt_iconst hV rfl (pc' := 20) rfl ?_
    refine r_aload_n hV rfl rfl (pc' := 21) rfl ?_
    refine r_iload_n hV rfl rfl (pc' := 22) rfl ?_
    refine tt_iconst hV rfl (pc' := 23) rfl ?_
    obtain ⟨v23, m23, h, hr⟩ := h
    refine tt_cv2I hV rfl rfl rfl (Wd_obj (hB _ _ rfl)) (Nat.le_of_ble_eq_true rfl) (Nat.le_of_ble_eq_true rfl) rfl hr (pc' := 26) rfl ?_
    refine q_iast hV rfl (hB _ _ rfl) (Nat.le_of_ble_eq_true rfl) rfl (by decide) (pc' := 27) rfl ?_
    refine r_aload_n hV rfl rfl (pc' := 28) rfl ?_
    refine tt_getR hV (tg := 6) (ci := 12) (kf := 15) rfl rfl (by decide) (hB _ _ rfl) rfl (by decide) (pc' := 31) rfl ?_
    refine tt_iconst hV rfl (pc' := 32) rfl ?_
    refine r_aload_n hV rfl rfl (pc' := 33) rfl ?_
    refine tt_getR hV (tg := 6) (ci := 12) (kf := 30) rfl rfl (by decide) (hB _ _ rfl) rfl (by decide) (pc' := 36) rfl ?_
    refine tt_bipush hV rfl (by decide) (pc' := 38) rfl ?_
    refine r_iload_n hV rfl rfl (pc' := 39) rfl ?_
    refine tt_iadd hV rfl (pc' := 40) rfl ?_
    refine vtI (y := x + 6) (by clear h; omega) ?_
    obtain ⟨g4, h⟩ := h
    refine q_iald hV rfl (hB _ _ rfl) (Nat.le_of_ble_eq_true rfl) rfl g4 (pc' := 41) rfl ?_
    refine vtI (y := m23 101 (x + 6)) (up_ne (Or.inl (by decide))) ?_
    refine q_iast hV rfl (hB _ _ rfl) (Nat.le_of_ble_eq_true rfl) rfl (by decide) (pc' := 42) rfl ?_
    refine r_aload_n hV rfl rfl (pc' := 43) rfl ?_
    refine tt_getR hV (tg := 6) (ci := 12) (kf := 15) rfl rfl (by decide) (hB _ _ rfl) rfl (by decide) (pc' := 46) rfl ?_
    refine tt_iconst hV rfl (pc' := 47) rfl ?_
    refine r_aload_n hV rfl rfl (pc' := 48) rfl ?_
    refine tt_getR hV (tg := 6) (ci := 12) (kf := 30) rfl rfl (by decide) (hB _ _ rfl) rfl (by decide) (pc' := 51) rfl ?_
    refine tt_bipush hV rfl (by decide) (pc' := 53) rfl ?_
    refine r_iload_n hV rfl rfl (pc' := 54) rfl ?_
    refine tt_iadd hV rfl (pc' := 55) rfl ?_
    refine vtI (y := x + 12) (by clear h; omega) ?_
    obtain ⟨g5, h⟩ := h
    refine q_iald hV rfl (hB _ _ rfl) (Nat.le_of_ble_eq_true rfl) rfl g5 (pc' := 56) rfl ?_
    refine vtI (y := m23 101 (x + 12)) ((up_ne (Or.inl (by decide))).trans (up_ne (Or.inl (by decide)))) ?_
    refine q_iast hV rfl (hB _ _ rfl) (Nat.le_of_ble_eq_true rfl) rfl (by decide) (pc' := 57) rfl ?_
    refine r_aload_n hV rfl rfl (pc' := 58) rfl ?_
    refine tt_getR hV (tg := 6) (ci := 12) (kf := 15) rfl rfl (by decide) (hB _ _ rfl) rfl (by decide) (pc' := 61) rfl ?_
    refine tt_iconst hV rfl (pc' := 62) rfl ?_
    refine r_aload_n hV rfl rfl (pc' := 63) rfl ?_
    refine tt_getI hV (tg := 0) (ci := 12) (kf := 28) rfl rfl (by decide) (hB _ _ rfl) rfl (by decide) (pc' := 66) rfl ?_
    refine vtI (y := m23 83 28) ((up_ne (Or.inl (by decide))).trans ((up_ne (Or.inl (by decide))).trans (up_ne (Or.inl (by decide))))) ?_
    refine r_aload_n hV rfl rfl (pc' := 67) rfl ?_
    refine tt_getR hV (tg := 6) (ci := 12) (kf := 30) rfl rfl (by decide) (hB _ _ rfl) rfl (by decide) (pc' := 70) rfl ?_
    refine tt_bipush hV rfl (by decide) (pc' := 72) rfl ?_
    refine q_iald hV rfl (hB _ _ rfl) (Nat.le_of_ble_eq_true rfl) rfl (by decide) (pc' := 73) rfl ?_
    refine vtI (y := m23 101 18) ((up_ne (Or.inl (by decide))).trans ((up_ne (Or.inl (by decide))).trans (up_ne (Or.inl (by decide))))) ?_
    obtain ⟨v73, m73, h, hr⟩ := h
    refine tt_cs1I hV rfl rfl rfl (Nat.le_of_ble_eq_true rfl) (Nat.le_of_ble_eq_true rfl) rfl hr (pc' := 76) rfl ?_
    refine tt_isub hV rfl (pc' := 77) rfl ?_
    refine q_iast hV rfl (hB _ _ rfl) (Nat.le_of_ble_eq_true rfl) rfl (by decide) (pc' := 78) rfl ?_
    refine r_aload_n hV rfl rfl (pc' := 79) rfl ?_
    refine tt_getR hV (tg := 6) (ci := 12) (kf := 15) rfl rfl (by decide) (hB _ _ rfl) rfl (by decide) (pc' := 82) rfl ?_
    refine tt_iconst hV rfl (pc' := 83) rfl ?_
    refine r_aload_n hV rfl rfl (pc' := 84) rfl ?_
    refine tt_getR hV (tg := 6) (ci := 12) (kf := 30) rfl rfl (by decide) (hB _ _ rfl) rfl (by decide) (pc' := 87) rfl ?_
    refine tt_bipush hV rfl (by decide) (pc' := 89) rfl ?_
    refine q_iald hV rfl (hB _ _ rfl) (Nat.le_of_ble_eq_true rfl) rfl (by decide) (pc' := 90) rfl ?_
    refine vtI (y := m73 101 21) (up_ne (Or.inl (by decide))) ?_
    refine q_iast hV rfl (hB _ _ rfl) (Nat.le_of_ble_eq_true rfl) rfl (by decide) (pc' := 91) rfl ?_
    refine r_aload_n hV rfl rfl (pc' := 92) rfl ?_
    refine tt_getR hV (tg := 6) (ci := 12) (kf := 15) rfl rfl (by decide) (hB _ _ rfl) rfl (by decide) (pc' := 95) rfl ?_
    refine tt_iconst hV rfl (pc' := 96) rfl ?_
    refine r_aload_n hV rfl rfl (pc' := 97) rfl ?_
    refine tt_getR hV (tg := 6) (ci := 12) (kf := 30) rfl rfl (by decide) (hB _ _ rfl) rfl (by decide) (pc' := 100) rfl ?_
    refine tt_bipush hV rfl (by decide) (pc' := 102) rfl ?_
    refine q_iald hV rfl (hB _ _ rfl) (Nat.le_of_ble_eq_true rfl) rfl (by decide) (pc' := 103) rfl ?_
    refine vtI (y := m73 101 22) ((up_ne (Or.inl (by decide))).trans (up_ne (Or.inl (by decide)))) ?_
    refine q_iast hV rfl (hB _ _ rfl) (Nat.le_of_ble_eq_true rfl) rfl (by decide) (pc' := 104) rfl ?_
    refine r_aload_n hV rfl rfl (pc' := 105) rfl ?_
    refine r_aload_n hV rfl rfl (pc' := 106) rfl ?_
    refine tt_getI hV (tg := 0) (ci := 12) (kf := 32) rfl rfl (by decide) (hB _ _ rfl) rfl (by decide) (pc' := 109) rfl ?_
    refine vtI (y := m73 83 32) ((up_ne (Or.inl (by decide))).trans ((up_ne (Or.inl (by decide))).trans (up_ne (Or.inl (by decide))))) ?_
    obtain ⟨v109, m109, h, hr⟩ := h
    refine tt_cv1I hV rfl rfl rfl (Wd_obj (hB _ _ rfl)) (Nat.le_of_ble_eq_true rfl) (Nat.le_of_ble_eq_true rfl) rfl hr (pc' := 112) rfl ?_
    refine tt_istore2 hV rfl rfl (pc' := 113) rfl ?_
    refine tt_iconst hV rfl (pc' := 114) rfl ?_
    refine tt_bipush hV rfl (by decide) (pc' := 116) rfl ?_
    refine r_iload_n hV rfl rfl (pc' := 117) rfl ?_
    obtain ⟨g6, h⟩ := h
    refine tt_min hV rfl rfl rfl (by decide) g6 (Nat.le_of_ble_eq_true rfl) (pc' := 120) rfl ?_
    obtain ⟨g7, h⟩ := h
    refine tt_max hV rfl rfl rfl (by decide) g7 (Nat.le_of_ble_eq_true rfl) (pc' := 123) rfl ?_
    exact rq_ret (q := mI215) rfl rfl rfl h
theorem M_sumNoww {X : Cx} {d : Nat} {m : Mm} {Q : Int → Mm → Prop} (hB : Bsh X.2.2.1) (h : M_sumNow_4 X (d + 1) 0 0 m Q) : M_sumNow X (d + 1) m Q := by
  unfold M_sumNow
  have hV : Clo (gP X.1 X.2.1) (d + 1) 216 3 false (Rq (gP X.1 X.2.1) (d + 1) 216 X.2.2.1 X.2.2.2 Q) := Rq_clo (q := mI216) rfl
  refine tt_iconst hV rfl (pc' := 1) rfl ?_
  refine tt_istore1 hV rfl rfl (pc' := 2) rfl ?_
  refine tt_iconst hV rfl (pc' := 3) rfl ?_
  refine tt_istore2 hV rfl rfl (pc' := 4) rfl ?_
  exact h
theorem M_sumNow_4w {X : Cx} {d : Nat} {l1 : Int} {l2 : Int} {m : Mm} {Q : Int → Mm → Prop} (hB : Bsh X.2.2.1) (h : (-2147483648 ≤ l2 ∧ l2 < 2147483648) ∧ (-2147483648 ≤ (m 83 28) ∧ (m 83 28) < 2147483648) ∧ (m 83 28 ≤ l2 → M_has X d (m 83 29) (m 101 21) m (fun v60 m60 => (-2147483648 ≤ v60 ∧ v60 < 2147483648) ∧ (v60 = 0 → Q l1 m60) ∧ (v60 ≠ 0 → Q (2 * l1) m60))) ∧ (l2 < m 83 28 → M_isOn X d l2 m (fun v15 m15 => (-2147483648 ≤ v15 ∧ v15 < 2147483648) ∧ (v15 = 0 → M_sumNow_4 X (d + 1) l1 (l2 + 1) m15 Q) ∧ (v15 ≠ 0 → (0 ≤ l2 ∧ l2 < 205) ∧ M_pushOf X d l2 m15 (fun v33 m33 => M_sumNow_4 X (d + 1) (l1 + ((m15 101 l2 - 1) * v33)) (l2 + 1) m33 Q))))) : M_sumNow_4 X (d + 1) l1 l2 m Q := by
  unfold M_sumNow_4
  have hV : Clo (gP X.1 X.2.1) (d + 1) 216 3 false (Rq (gP X.1 X.2.1) (d + 1) 216 X.2.2.1 X.2.2.2 Q) := Rq_clo (q := mI216) rfl
  refine r_iload_n hV rfl rfl (pc' := 5) rfl ?_
  refine r_aload_n hV rfl rfl (pc' := 6) rfl ?_
  refine tt_getI hV (tg := 0) (ci := 12) (kf := 28) rfl rfl (by decide) (hB _ _ rfl) rfl (by decide) (pc' := 9) rfl ?_
  obtain ⟨g1, h⟩ := h
  obtain ⟨g2, h⟩ := h
  refine tt_icmp_ge hV rfl g1 g2 (pt := 49) (by decide) (pf := 12) rfl (fun hc => ?_) (fun hc => ?_)
  · replace h := h.1 hc
    refine r_aload_n hV rfl rfl (pc' := 50) rfl ?_
    refine tt_getI hV (tg := 0) (ci := 12) (kf := 29) rfl rfl (by decide) (hB _ _ rfl) rfl (by decide) (pc' := 53) rfl ?_
    refine r_aload_n hV rfl rfl (pc' := 54) rfl ?_
    refine tt_getR hV (tg := 6) (ci := 12) (kf := 30) rfl rfl (by decide) (hB _ _ rfl) rfl (by decide) (pc' := 57) rfl ?_
    refine tt_bipush hV rfl (by decide) (pc' := 59) rfl ?_
    refine q_iald hV rfl (hB _ _ rfl) (Nat.le_of_ble_eq_true rfl) rfl (by decide) (pc' := 60) rfl ?_
    obtain ⟨v60, m60, h, hr⟩ := h
    refine tt_cs2I hV rfl rfl rfl (Nat.le_of_ble_eq_true rfl) (Nat.le_of_ble_eq_true rfl) rfl hr (pc' := 63) rfl ?_
    obtain ⟨g3, h⟩ := h
    refine tt_if_eq hV rfl g3 (pt := 72) (by decide) (pf := 66) rfl (fun hc => ?_) (fun hc => ?_)
    · replace h := h.1 hc
      refine r_iload_n hV rfl rfl (pc' := 73) rfl ?_
      exact rq_ret (q := mI216) rfl rfl rfl h
    · replace h := h.2 hc
      refine tt_iconst hV rfl (pc' := 67) rfl ?_
      refine r_iload_n hV rfl rfl (pc' := 68) rfl ?_
      refine tt_imul hV rfl (pc' := 69) rfl ?_
      refine r_goto hV rfl (pc' := 73) (by decide) ?_
      exact rq_ret (q := mI216) rfl rfl rfl h
  · replace h := h.2 (Int.not_le.mp hc)
    refine r_iload_n hV rfl rfl (pc' := 13) rfl ?_
    refine r_aload_n hV rfl rfl (pc' := 14) rfl ?_
    refine r_iload_n hV rfl rfl (pc' := 15) rfl ?_
    obtain ⟨v15, m15, h, hr⟩ := h
    refine tt_cv1I hV rfl rfl rfl (Wd_obj (hB _ _ rfl)) (Nat.le_of_ble_eq_true rfl) (Nat.le_of_ble_eq_true rfl) rfl hr (pc' := 18) rfl ?_
    obtain ⟨g4, h⟩ := h
    refine tt_if_eq hV rfl g4 (pt := 40) (by decide) (pf := 21) rfl (fun hc => ?_) (fun hc => ?_)
    · replace h := h.1 hc
      refine tt_iconst hV rfl (pc' := 41) rfl ?_
      refine tt_iadd hV rfl (pc' := 42) rfl ?_
      refine vtI (y := l1) (by clear h; omega) ?_
      refine tt_istore1 hV rfl rfl (pc' := 43) rfl ?_
      refine tt_iinc2 hV rfl rfl (pc' := 46) rfl ?_
      refine r_goto hV rfl (pc' := 4) (by decide) ?_
      exact h
    · replace h := h.2 hc
      refine r_aload_n hV rfl rfl (pc' := 22) rfl ?_
      refine tt_getR hV (tg := 6) (ci := 12) (kf := 30) rfl rfl (by decide) (hB _ _ rfl) rfl (by decide) (pc' := 25) rfl ?_
      refine tt_iconst hV rfl (pc' := 26) rfl ?_
      refine r_iload_n hV rfl rfl (pc' := 27) rfl ?_
      refine tt_iadd hV rfl (pc' := 28) rfl ?_
      refine vtI (y := l2) (by clear h; omega) ?_
      obtain ⟨g5, h⟩ := h
      refine q_iald hV rfl (hB _ _ rfl) (Nat.le_of_ble_eq_true rfl) rfl g5 (pc' := 29) rfl ?_
      refine tt_iconst hV rfl (pc' := 30) rfl ?_
      refine tt_isub hV rfl (pc' := 31) rfl ?_
      refine r_aload_n hV rfl rfl (pc' := 32) rfl ?_
      refine r_iload_n hV rfl rfl (pc' := 33) rfl ?_
      obtain ⟨v33, m33, h, hr⟩ := h
      refine tt_cv1I hV rfl rfl rfl (Wd_obj (hB _ _ rfl)) (Nat.le_of_ble_eq_true rfl) (Nat.le_of_ble_eq_true rfl) rfl hr (pc' := 36) rfl ?_
      refine tt_imul hV rfl (pc' := 37) rfl ?_
      refine vtI (y := ((m15 101 l2 - 1) * v33)) (by clear h; omega) ?_
      refine r_goto hV rfl (pc' := 41) (by decide) ?_
      refine tt_iadd hV rfl (pc' := 42) rfl ?_
      refine tt_istore1 hV rfl rfl (pc' := 43) rfl ?_
      refine tt_iinc2 hV rfl rfl (pc' := 46) rfl ?_
      refine r_goto hV rfl (pc' := 4) (by decide) ?_
      exact h
theorem M_asidew {X : Cx} {d : Nat} {x : Int} {y : Int} {m : Mm} {Q : Int → Mm → Prop} (hB : Bsh X.2.2.1) (h : M_in X d (x + y) 0 (m 98 0 - 1) m (fun v12 m12 => (-2147483648 ≤ v12 ∧ v12 < 2147483648) ∧ (v12 = 0 → Q x m12) ∧ (v12 ≠ 0 → Q (x + y) m12))) : M_aside X (d + 1) x y m Q := by
  unfold M_aside
  have hV : Clo (gP X.1 X.2.1) (d + 1) 217 3 false (Rq (gP X.1 X.2.1) (d + 1) 217 X.2.2.1 X.2.2.2 Q) := Rq_clo (q := mI217) rfl
  refine r_iload_n hV rfl rfl (pc' := 1) rfl ?_
  refine r_iload_n hV rfl rfl (pc' := 2) rfl ?_
  refine tt_iadd hV rfl (pc' := 3) rfl ?_
  refine tt_iconst hV rfl (pc' := 4) rfl ?_
  refine r_aload_n hV rfl rfl (pc' := 5) rfl ?_
  refine tt_getR hV (tg := 6) (ci := 12) (kf := 24) rfl rfl (by decide) (hB _ _ rfl) rfl (by decide) (pc' := 8) rfl ?_
  refine tt_iconst hV rfl (pc' := 9) rfl ?_
  refine q_iald hV rfl (hB _ _ rfl) (Nat.le_of_ble_eq_true rfl) rfl (by decide) (pc' := 10) rfl ?_
  refine tt_iconst hV rfl (pc' := 11) rfl ?_
  refine tt_isub hV rfl (pc' := 12) rfl ?_
  obtain ⟨v12, m12, h, hr⟩ := h
  refine tt_cs3I hV rfl rfl rfl (Nat.le_of_ble_eq_true rfl) (Nat.le_of_ble_eq_true rfl) rfl hr (pc' := 15) rfl ?_
  obtain ⟨g1, h⟩ := h
  refine tt_if_eq hV rfl g1 (pt := 24) (by decide) (pf := 18) rfl (fun hc => ?_) (fun hc => ?_)
  · replace h := h.1 hc
    refine r_iload_n hV rfl rfl (pc' := 25) rfl ?_
    exact rq_ret (q := mI217) rfl rfl rfl h
  · replace h := h.2 hc
    refine r_iload_n hV rfl rfl (pc' := 19) rfl ?_
    refine r_iload_n hV rfl rfl (pc' := 20) rfl ?_
    refine tt_iadd hV rfl (pc' := 21) rfl ?_
    refine r_goto hV rfl (pc' := 25) (by decide) ?_
    exact rq_ret (q := mI217) rfl rfl rfl h
theorem M_bumpHerew {X : Cx} {d : Nat} {m : Mm} {Q : Int → Mm → Prop} (hB : Bsh X.2.2.1) (h : M_bumpHere_2 X (d + 1) 0 m Q) : M_bumpHere X (d + 1) m Q := by
  unfold M_bumpHere
  have hV : Clo (gP X.1 X.2.1) (d + 1) 218 2 false (Rq (gP X.1 X.2.1) (d + 1) 218 X.2.2.1 X.2.2.2 Q) := Rq_clo (q := mI218) rfl
  refine tt_iconst hV rfl (pc' := 1) rfl ?_
  refine tt_istore1 hV rfl rfl (pc' := 2) rfl ?_
  exact h
theorem M_bumpHere_2w {X : Cx} {d : Nat} {l1 : Int} {m : Mm} {Q : Int → Mm → Prop} (hB : Bsh X.2.2.1) (h : (-2147483648 ≤ l1 ∧ l1 < 2147483648) ∧ (-2147483648 ≤ (m 83 27) ∧ (m 83 27) < 2147483648) ∧ (m 83 27 ≤ l1 → Q (-1) m) ∧ (l1 < m 83 27 → M_ofBump X d l1 0 m (fun v13 m13 => (-2147483648 ≤ v13 ∧ v13 < 2147483648) ∧ (-2147483648 ≤ (m13 101 21) ∧ (m13 101 21) < 2147483648) ∧ (v13 ≠ m13 101 21 → M_bumpHere_2 X (d + 1) (l1 + 1) m13 Q) ∧ (v13 = m13 101 21 → M_ofBump X d l1 1 m13 (fun v29 m29 => (-2147483648 ≤ v29 ∧ v29 < 2147483648) ∧ (-2147483648 ≤ (m29 101 22) ∧ (m29 101 22) < 2147483648) ∧ (v29 ≠ m29 101 22 → M_bumpHere_2 X (d + 1) (l1 + 1) m29 Q) ∧ (v29 = m29 101 22 → Q l1 m29)))))) : M_bumpHere_2 X (d + 1) l1 m Q := by
  unfold M_bumpHere_2
  have hV : Clo (gP X.1 X.2.1) (d + 1) 218 2 false (Rq (gP X.1 X.2.1) (d + 1) 218 X.2.2.1 X.2.2.2 Q) := Rq_clo (q := mI218) rfl
  refine r_iload_n hV rfl rfl (pc' := 3) rfl ?_
  refine r_aload_n hV rfl rfl (pc' := 4) rfl ?_
  refine tt_getI hV (tg := 0) (ci := 12) (kf := 27) rfl rfl (by decide) (hB _ _ rfl) rfl (by decide) (pc' := 7) rfl ?_
  obtain ⟨g1, h⟩ := h
  obtain ⟨g2, h⟩ := h
  refine tt_icmp_ge hV rfl g1 g2 (pt := 50) (by decide) (pf := 10) rfl (fun hc => ?_) (fun hc => ?_)
  · replace h := h.1 hc
    refine tt_iconst hV rfl (pc' := 51) rfl ?_
    exact rq_ret (q := mI218) rfl rfl rfl h
  · replace h := h.2 (Int.not_le.mp hc)
    refine r_aload_n hV rfl rfl (pc' := 11) rfl ?_
    refine r_iload_n hV rfl rfl (pc' := 12) rfl ?_
    refine tt_iconst hV rfl (pc' := 13) rfl ?_
    obtain ⟨v13, m13, h, hr⟩ := h
    refine tt_cv2I hV rfl rfl rfl (Wd_obj (hB _ _ rfl)) (Nat.le_of_ble_eq_true rfl) (Nat.le_of_ble_eq_true rfl) rfl hr (pc' := 16) rfl ?_
    refine r_aload_n hV rfl rfl (pc' := 17) rfl ?_
    refine tt_getR hV (tg := 6) (ci := 12) (kf := 30) rfl rfl (by decide) (hB _ _ rfl) rfl (by decide) (pc' := 20) rfl ?_
    refine tt_bipush hV rfl (by decide) (pc' := 22) rfl ?_
    refine q_iald hV rfl (hB _ _ rfl) (Nat.le_of_ble_eq_true rfl) rfl (by decide) (pc' := 23) rfl ?_
    obtain ⟨g3, h⟩ := h
    obtain ⟨g4, h⟩ := h
    refine tt_icmp_ne hV rfl g3 g4 (pt := 44) (by decide) (pf := 26) rfl (fun hc => ?_) (fun hc => ?_)
    · replace h := h.1 hc
      refine tt_iinc1 hV rfl rfl (pc' := 47) rfl ?_
      refine r_goto hV rfl (pc' := 2) (by decide) ?_
      exact h
    · replace h := h.2 (Decidable.not_not.mp hc)
      refine r_aload_n hV rfl rfl (pc' := 27) rfl ?_
      refine r_iload_n hV rfl rfl (pc' := 28) rfl ?_
      refine tt_iconst hV rfl (pc' := 29) rfl ?_
      obtain ⟨v29, m29, h, hr⟩ := h
      refine tt_cv2I hV rfl rfl rfl (Wd_obj (hB _ _ rfl)) (Nat.le_of_ble_eq_true rfl) (Nat.le_of_ble_eq_true rfl) rfl hr (pc' := 32) rfl ?_
      refine r_aload_n hV rfl rfl (pc' := 33) rfl ?_
      refine tt_getR hV (tg := 6) (ci := 12) (kf := 30) rfl rfl (by decide) (hB _ _ rfl) rfl (by decide) (pc' := 36) rfl ?_
      refine tt_bipush hV rfl (by decide) (pc' := 38) rfl ?_
      refine q_iald hV rfl (hB _ _ rfl) (Nat.le_of_ble_eq_true rfl) rfl (by decide) (pc' := 39) rfl ?_
      obtain ⟨g5, h⟩ := h
      obtain ⟨g6, h⟩ := h
      refine tt_icmp_ne hV rfl g5 g6 (pt := 44) (by decide) (pf := 42) rfl (fun hc => ?_) (fun hc => ?_)
      · replace h := h.1 hc
        refine tt_iinc1 hV rfl rfl (pc' := 47) rfl ?_
        refine r_goto hV rfl (pc' := 2) (by decide) ?_
        exact h
      · replace h := h.2 (Decidable.not_not.mp hc)
        refine r_iload_n hV rfl rfl (pc' := 43) rfl ?_
        exact rq_ret (q := mI218) rfl rfl rfl h
theorem M_slidew {X : Cx} {d : Nat} {m : Mm} {Q : Int → Mm → Prop} (hB : Bsh X.2.2.1) (h : M_sumNow X d m (fun v1 m1 => (-2147483648 ≤ v1 ∧ v1 < 2147483648) ∧ (-2147483648 ≤ (m1 98 2) ∧ (m1 98 2) < 2147483648) ∧ (v1 < m1 98 2 → (-2147483648 ≤ (-m1 98 2) ∧ (-m1 98 2) < 2147483648) ∧ (-m1 98 2 < v1 → M_aside X d (m1 101 22) 0 m1 (fun v49 m49 => M_bumpHere X d (up (up m49 101 22 v49) 101 21 (m49 101 21 + 1)) (fun v65 m65 => (-2147483648 ≤ v65 ∧ v65 < 2147483648) ∧ (v65 = -1 → M_slide_88 X (d + 1) v1 v65 0 m65 Q) ∧ (v65 ≠ -1 → M_slide_88 X (d + 1) v1 v65 0 (up m65 83 34 ((iO (m65 83 34) ((iSl 1 v65))))) Q)))) ∧ (v1 ≤ -m1 98 2 → M_aside X d (m1 101 22) (-1) m1 (fun v49 m49 => M_bumpHere X d (up (up m49 101 22 v49) 101 21 (m49 101 21 + 1)) (fun v65 m65 => (-2147483648 ≤ v65 ∧ v65 < 2147483648) ∧ (v65 = -1 → M_slide_88 X (d + 1) v1 v65 0 m65 Q) ∧ (v65 ≠ -1 → M_slide_88 X (d + 1) v1 v65 0 (up m65 83 34 ((iO (m65 83 34) ((iSl 1 v65))))) Q))))) ∧ (m1 98 2 ≤ v1 → M_aside X d (m1 101 22) 1 m1 (fun v49 m49 => M_bumpHere X d (up (up m49 101 22 v49) 101 21 (m49 101 21 + 1)) (fun v65 m65 => (-2147483648 ≤ v65 ∧ v65 < 2147483648) ∧ (v65 = -1 → M_slide_88 X (d + 1) v1 v65 0 m65 Q) ∧ (v65 ≠ -1 → M_slide_88 X (d + 1) v1 v65 0 (up m65 83 34 ((iO (m65 83 34) ((iSl 1 v65))))) Q)))))) : M_slide X (d + 1) m Q := by
  unfold M_slide
  have hV : Clo (gP X.1 X.2.1) (d + 1) 219 5 false (Rq (gP X.1 X.2.1) (d + 1) 219 X.2.2.1 X.2.2.2 Q) := Rq_clo (q := mI219) rfl
  refine r_aload_n hV rfl rfl (pc' := 1) rfl ?_
  obtain ⟨v1, m1, h, hr⟩ := h
  refine tt_cv0I hV rfl rfl rfl (Wd_obj (hB _ _ rfl)) (Nat.le_of_ble_eq_true rfl) (Nat.le_of_ble_eq_true rfl) rfl hr (pc' := 4) rfl ?_
  refine tt_istore1 hV rfl rfl (pc' := 5) rfl ?_
  refine r_aload_n hV rfl rfl (pc' := 6) rfl ?_
  refine tt_getR hV (tg := 6) (ci := 12) (kf := 30) rfl rfl (by decide) (hB _ _ rfl) rfl (by decide) (pc' := 9) rfl ?_
  refine tt_bipush hV rfl (by decide) (pc' := 11) rfl ?_
  refine r_aload_n hV rfl rfl (pc' := 12) rfl ?_
  refine r_aload_n hV rfl rfl (pc' := 13) rfl ?_
  refine tt_getR hV (tg := 6) (ci := 12) (kf := 30) rfl rfl (by decide) (hB _ _ rfl) rfl (by decide) (pc' := 16) rfl ?_
  refine tt_bipush hV rfl (by decide) (pc' := 18) rfl ?_
  refine q_iald hV rfl (hB _ _ rfl) (Nat.le_of_ble_eq_true rfl) rfl (by decide) (pc' := 19) rfl ?_
  refine r_iload_n hV rfl rfl (pc' := 20) rfl ?_
  refine r_aload_n hV rfl rfl (pc' := 21) rfl ?_
  refine tt_getR hV (tg := 6) (ci := 12) (kf := 24) rfl rfl (by decide) (hB _ _ rfl) rfl (by decide) (pc' := 24) rfl ?_
  refine tt_iconst hV rfl (pc' := 25) rfl ?_
  refine q_iald hV rfl (hB _ _ rfl) (Nat.le_of_ble_eq_true rfl) rfl (by decide) (pc' := 26) rfl ?_
  obtain ⟨g1, h⟩ := h
  obtain ⟨g2, h⟩ := h
  refine tt_icmp_lt hV rfl g1 g2 (pt := 33) (by decide) (pf := 29) rfl (fun hc => ?_) (fun hc => ?_)
  · replace h := h.1 hc
    refine r_iload_n hV rfl rfl (pc' := 34) rfl ?_
    refine r_aload_n hV rfl rfl (pc' := 35) rfl ?_
    refine tt_getR hV (tg := 6) (ci := 12) (kf := 24) rfl rfl (by decide) (hB _ _ rfl) rfl (by decide) (pc' := 38) rfl ?_
    refine tt_iconst hV rfl (pc' := 39) rfl ?_
    refine q_iald hV rfl (hB _ _ rfl) (Nat.le_of_ble_eq_true rfl) rfl (by decide) (pc' := 40) rfl ?_
    refine tt_ineg hV rfl (pc' := 41) rfl ?_
    refine vtI (y := -m1 98 2) (by clear h; omega) ?_
    obtain ⟨g3, h⟩ := h
    refine tt_icmp_gt hV rfl g1 g3 (pt := 48) (by decide) (pf := 44) rfl (fun hc => ?_) (fun hc => ?_)
    · replace h := h.1 hc
      refine tt_iconst hV rfl (pc' := 49) rfl ?_
      obtain ⟨v49, m49, h, hr⟩ := h
      refine tt_cv2I hV rfl rfl rfl (Wd_obj (hB _ _ rfl)) (Nat.le_of_ble_eq_true rfl) (Nat.le_of_ble_eq_true rfl) rfl hr (pc' := 52) rfl ?_
      refine q_iast hV rfl (hB _ _ rfl) (Nat.le_of_ble_eq_true rfl) rfl (by decide) (pc' := 53) rfl ?_
      refine r_aload_n hV rfl rfl (pc' := 54) rfl ?_
      refine tt_getR hV (tg := 6) (ci := 12) (kf := 30) rfl rfl (by decide) (hB _ _ rfl) rfl (by decide) (pc' := 57) rfl ?_
      refine tt_bipush hV rfl (by decide) (pc' := 59) rfl ?_
      refine r_dup2 hV rfl rfl rfl (pc' := 60) rfl ?_
      refine q_iald hV rfl (hB _ _ rfl) (Nat.le_of_ble_eq_true rfl) rfl (by decide) (pc' := 61) rfl ?_
      refine vtI (y := m49 101 21) (up_ne (Or.inr (by decide))) ?_
      refine tt_iconst hV rfl (pc' := 62) rfl ?_
      refine tt_iadd hV rfl (pc' := 63) rfl ?_
      refine q_iast hV rfl (hB _ _ rfl) (Nat.le_of_ble_eq_true rfl) rfl (by decide) (pc' := 64) rfl ?_
      refine r_aload_n hV rfl rfl (pc' := 65) rfl ?_
      obtain ⟨v65, m65, h, hr⟩ := h
      refine tt_cv0I hV rfl rfl rfl (Wd_obj (hB _ _ rfl)) (Nat.le_of_ble_eq_true rfl) (Nat.le_of_ble_eq_true rfl) rfl hr (pc' := 68) rfl ?_
      refine tt_istore2 hV rfl rfl (pc' := 69) rfl ?_
      refine tt_iconst hV rfl (pc' := 70) rfl ?_
      refine tt_istore3 hV rfl rfl (pc' := 71) rfl ?_
      refine r_iload_n hV rfl rfl (pc' := 72) rfl ?_
      refine tt_iconst hV rfl (pc' := 73) rfl ?_
      obtain ⟨g4, h⟩ := h
      refine tt_icmp_eq hV rfl g4 (by decide) (pt := 88) (by decide) (pf := 76) rfl (fun hc => ?_) (fun hc => ?_)
      · replace h := h.1 hc
        exact h
      · replace h := h.2 hc
        refine r_aload_n hV rfl rfl (pc' := 77) rfl ?_
        refine r_dup hV rfl rfl (pc' := 78) rfl ?_
        refine tt_getI hV (tg := 0) (ci := 12) (kf := 34) rfl rfl (by decide) (hB _ _ rfl) rfl (by decide) (pc' := 81) rfl ?_
        refine tt_iconst hV rfl (pc' := 82) rfl ?_
        refine r_iload_n hV rfl rfl (pc' := 83) rfl ?_
        refine tt_ishl hV rfl (pc' := 84) rfl ?_
        refine tt_ior hV rfl (pc' := 85) rfl ?_
        refine tt_putI hV (tg := 0) (ci := 12) (kf := 34) rfl rfl (Or.inl rfl) (hB _ _ rfl) rfl (by decide) rfl (pc' := 88) rfl ?_
        exact h
    · replace h := h.2 (Int.not_lt.mp hc)
      refine tt_iconst hV rfl (pc' := 45) rfl ?_
      refine r_goto hV rfl (pc' := 49) (by decide) ?_
      obtain ⟨v49, m49, h, hr⟩ := h
      refine tt_cv2I hV rfl rfl rfl (Wd_obj (hB _ _ rfl)) (Nat.le_of_ble_eq_true rfl) (Nat.le_of_ble_eq_true rfl) rfl hr (pc' := 52) rfl ?_
      refine q_iast hV rfl (hB _ _ rfl) (Nat.le_of_ble_eq_true rfl) rfl (by decide) (pc' := 53) rfl ?_
      refine r_aload_n hV rfl rfl (pc' := 54) rfl ?_
      refine tt_getR hV (tg := 6) (ci := 12) (kf := 30) rfl rfl (by decide) (hB _ _ rfl) rfl (by decide) (pc' := 57) rfl ?_
      refine tt_bipush hV rfl (by decide) (pc' := 59) rfl ?_
      refine r_dup2 hV rfl rfl rfl (pc' := 60) rfl ?_
      refine q_iald hV rfl (hB _ _ rfl) (Nat.le_of_ble_eq_true rfl) rfl (by decide) (pc' := 61) rfl ?_
      refine vtI (y := m49 101 21) (up_ne (Or.inr (by decide))) ?_
      refine tt_iconst hV rfl (pc' := 62) rfl ?_
      refine tt_iadd hV rfl (pc' := 63) rfl ?_
      refine q_iast hV rfl (hB _ _ rfl) (Nat.le_of_ble_eq_true rfl) rfl (by decide) (pc' := 64) rfl ?_
      refine r_aload_n hV rfl rfl (pc' := 65) rfl ?_
      obtain ⟨v65, m65, h, hr⟩ := h
      refine tt_cv0I hV rfl rfl rfl (Wd_obj (hB _ _ rfl)) (Nat.le_of_ble_eq_true rfl) (Nat.le_of_ble_eq_true rfl) rfl hr (pc' := 68) rfl ?_
      refine tt_istore2 hV rfl rfl (pc' := 69) rfl ?_
      refine tt_iconst hV rfl (pc' := 70) rfl ?_
      refine tt_istore3 hV rfl rfl (pc' := 71) rfl ?_
      refine r_iload_n hV rfl rfl (pc' := 72) rfl ?_
      refine tt_iconst hV rfl (pc' := 73) rfl ?_
      obtain ⟨g5, h⟩ := h
      refine tt_icmp_eq hV rfl g5 (by decide) (pt := 88) (by decide) (pf := 76) rfl (fun hc => ?_) (fun hc => ?_)
      · replace h := h.1 hc
        exact h
      · replace h := h.2 hc
        refine r_aload_n hV rfl rfl (pc' := 77) rfl ?_
        refine r_dup hV rfl rfl (pc' := 78) rfl ?_
        refine tt_getI hV (tg := 0) (ci := 12) (kf := 34) rfl rfl (by decide) (hB _ _ rfl) rfl (by decide) (pc' := 81) rfl ?_
        refine tt_iconst hV rfl (pc' := 82) rfl ?_
        refine r_iload_n hV rfl rfl (pc' := 83) rfl ?_
        refine tt_ishl hV rfl (pc' := 84) rfl ?_
        refine tt_ior hV rfl (pc' := 85) rfl ?_
        refine tt_putI hV (tg := 0) (ci := 12) (kf := 34) rfl rfl (Or.inl rfl) (hB _ _ rfl) rfl (by decide) rfl (pc' := 88) rfl ?_
        exact h
  · replace h := h.2 (Int.not_lt.mp hc)
    refine tt_iconst hV rfl (pc' := 30) rfl ?_
    refine r_goto hV rfl (pc' := 49) (by decide) ?_
    obtain ⟨v49, m49, h, hr⟩ := h
    refine tt_cv2I hV rfl rfl rfl (Wd_obj (hB _ _ rfl)) (Nat.le_of_ble_eq_true rfl) (Nat.le_of_ble_eq_true rfl) rfl hr (pc' := 52) rfl ?_
    refine q_iast hV rfl (hB _ _ rfl) (Nat.le_of_ble_eq_true rfl) rfl (by decide) (pc' := 53) rfl ?_
    refine r_aload_n hV rfl rfl (pc' := 54) rfl ?_
    refine tt_getR hV (tg := 6) (ci := 12) (kf := 30) rfl rfl (by decide) (hB _ _ rfl) rfl (by decide) (pc' := 57) rfl ?_
    refine tt_bipush hV rfl (by decide) (pc' := 59) rfl ?_
    refine r_dup2 hV rfl rfl rfl (pc' := 60) rfl ?_
    refine q_iald hV rfl (hB _ _ rfl) (Nat.le_of_ble_eq_true rfl) rfl (by decide) (pc' := 61) rfl ?_
    refine vtI (y := m49 101 21) (up_ne (Or.inr (by decide))) ?_
    refine tt_iconst hV rfl (pc' := 62) rfl ?_
    refine tt_iadd hV rfl (pc' := 63) rfl ?_
    refine q_iast hV rfl (hB _ _ rfl) (Nat.le_of_ble_eq_true rfl) rfl (by decide) (pc' := 64) rfl ?_
    refine r_aload_n hV rfl rfl (pc' := 65) rfl ?_
    obtain ⟨v65, m65, h, hr⟩ := h
    refine tt_cv0I hV rfl rfl rfl (Wd_obj (hB _ _ rfl)) (Nat.le_of_ble_eq_true rfl) (Nat.le_of_ble_eq_true rfl) rfl hr (pc' := 68) rfl ?_
    refine tt_istore2 hV rfl rfl (pc' := 69) rfl ?_
    refine tt_iconst hV rfl (pc' := 70) rfl ?_
    refine tt_istore3 hV rfl rfl (pc' := 71) rfl ?_
    refine r_iload_n hV rfl rfl (pc' := 72) rfl ?_
    refine tt_iconst hV rfl (pc' := 73) rfl ?_
    obtain ⟨g6, h⟩ := h
    refine tt_icmp_eq hV rfl g6 (by decide) (pt := 88) (by decide) (pf := 76) rfl (fun hc => ?_) (fun hc => ?_)
    · replace h := h.1 hc
      exact h
    · replace h := h.2 hc
      refine r_aload_n hV rfl rfl (pc' := 77) rfl ?_
      refine r_dup hV rfl rfl (pc' := 78) rfl ?_
      refine tt_getI hV (tg := 0) (ci := 12) (kf := 34) rfl rfl (by decide) (hB _ _ rfl) rfl (by decide) (pc' := 81) rfl ?_
      refine tt_iconst hV rfl (pc' := 82) rfl ?_
      refine r_iload_n hV rfl rfl (pc' := 83) rfl ?_
      refine tt_ishl hV rfl (pc' := 84) rfl ?_
      refine tt_ior hV rfl (pc' := 85) rfl ?_
      refine tt_putI hV (tg := 0) (ci := 12) (kf := 34) rfl rfl (Or.inl rfl) (hB _ _ rfl) rfl (by decide) rfl (pc' := 88) rfl ?_
      exact h
theorem M_slide_88w {X : Cx} {d : Nat} {l1 : Int} {l2 : Int} {l3 : Int} {m : Mm} {Q : Int → Mm → Prop} (hB : Bsh X.2.2.1) (h : (-2147483648 ≤ l2 ∧ l2 < 2147483648) ∧ (l2 = -1 → Q l3 m) ∧ (l2 ≠ -1 → M_has X d (m 101 19) l2 m (fun v101 m101 => (-2147483648 ≤ v101 ∧ v101 < 2147483648) ∧ (v101 ≠ 0 → Q l3 m101) ∧ (v101 = 0 → M_slide_110 X (d + 1) l1 l2 l3 0 m101 Q)))) : M_slide_88 X (d + 1) l1 l2 l3 m Q := by
  unfold M_slide_88
  have hV : Clo (gP X.1 X.2.1) (d + 1) 219 5 false (Rq (gP X.1 X.2.1) (d + 1) 219 X.2.2.1 X.2.2.2 Q) := Rq_clo (q := mI219) rfl
  refine r_iload_n hV rfl rfl (pc' := 89) rfl ?_
  refine tt_iconst hV rfl (pc' := 90) rfl ?_
  obtain ⟨g7, h⟩ := h
  refine tt_icmp_eq hV rfl g7 (by decide) (pt := 208) (by decide) (pf := 93) rfl (fun hc => ?_) (fun hc => ?_)
  · replace h := h.1 hc
    refine r_iload_n hV rfl rfl (pc' := 209) rfl ?_
    exact rq_ret (q := mI219) rfl rfl rfl h
  · replace h := h.2 hc
    refine r_aload_n hV rfl rfl (pc' := 94) rfl ?_
    refine tt_getR hV (tg := 6) (ci := 12) (kf := 30) rfl rfl (by decide) (hB _ _ rfl) rfl (by decide) (pc' := 97) rfl ?_
    refine tt_bipush hV rfl (by decide) (pc' := 99) rfl ?_
    refine q_iald hV rfl (hB _ _ rfl) (Nat.le_of_ble_eq_true rfl) rfl (by decide) (pc' := 100) rfl ?_
    refine r_iload_n hV rfl rfl (pc' := 101) rfl ?_
    obtain ⟨v101, m101, h, hr⟩ := h
    refine tt_cs2I hV rfl rfl rfl (Nat.le_of_ble_eq_true rfl) (Nat.le_of_ble_eq_true rfl) rfl hr (pc' := 104) rfl ?_
    obtain ⟨g8, h⟩ := h
    refine tt_if_ne hV rfl g8 (pt := 208) (by decide) (pf := 107) rfl (fun hc => ?_) (fun hc => ?_)
    · replace h := h.1 hc
      refine r_iload_n hV rfl rfl (pc' := 209) rfl ?_
      exact rq_ret (q := mI219) rfl rfl rfl h
    · replace h := h.2 (Decidable.not_not.mp hc)
      refine tt_iconst hV rfl (pc' := 108) rfl ?_
      refine tt_istore4 hV rfl rfl (pc' := 110) rfl ?_
      exact h
theorem M_slide_110w {X : Cx} {d : Nat} {l1 : Int} {l2 : Int} {l3 : Int} {l4 : Int} {m : Mm} {Q : Int → Mm → Prop} (hB : Bsh X.2.2.1) (h : (-2147483648 ≤ l4 ∧ l4 < 2147483648) ∧ (-2147483648 ≤ (m 83 28) ∧ (m 83 28) < 2147483648) ∧ (m 83 28 ≤ l4 → M_ofBump X d l2 3 (up m 101 18 ((iO (m 101 18) l3))) (fun v192 m192 => (-2147483648 ≤ v192 ∧ v192 < 2147483648) ∧ (v192 ≠ 1 → M_aside X d (m 101 22) (-1) m192 (fun v204 m204 => Q l3 (up m204 101 22 v204))) ∧ (v192 = 1 → M_aside X d (m 101 22) 1 m192 (fun v204 m204 => Q l3 (up m204 101 22 v204))))) ∧ (l4 < m 83 28 → M_isOn X d l4 m (fun v123 m123 => (-2147483648 ≤ v123 ∧ v123 < 2147483648) ∧ (v123 = 0 → M_slide_110 X (d + 1) l1 l2 ((iO l3 0)) (l4 + 1) m123 Q) ∧ (v123 ≠ 0 → (0 ≤ l4 + 6 ∧ l4 + 6 < 205) ∧ M_ofBump X d l2 2 m123 (fun v142 m142 => (-2147483648 ≤ (m123 101 (l4 + 6)) ∧ (m123 101 (l4 + 6)) < 2147483648) ∧ (-2147483648 ≤ v142 ∧ v142 < 2147483648) ∧ (v142 ≤ m123 101 (l4 + 6) → M_slide_110 X (d + 1) l1 l2 ((iO l3 0)) (l4 + 1) m142 Q) ∧ (m123 101 (l4 + 6) < v142 → M_slide_110 X (d + 1) l1 l2 ((iO l3 ((iSl 1 l4)))) (l4 + 1) m142 Q)))))) : M_slide_110 X (d + 1) l1 l2 l3 l4 m Q := by
  unfold M_slide_110
  have hV : Clo (gP X.1 X.2.1) (d + 1) 219 5 false (Rq (gP X.1 X.2.1) (d + 1) 219 X.2.2.1 X.2.2.2 Q) := Rq_clo (q := mI219) rfl
  refine r_iload hV rfl rfl (pc' := 112) rfl ?_
  refine r_aload_n hV rfl rfl (pc' := 113) rfl ?_
  refine tt_getI hV (tg := 0) (ci := 12) (kf := 28) rfl rfl (by decide) (hB _ _ rfl) rfl (by decide) (pc' := 116) rfl ?_
  obtain ⟨g9, h⟩ := h
  obtain ⟨g10, h⟩ := h
  refine tt_icmp_ge hV rfl g9 g10 (pt := 164) (by decide) (pf := 119) rfl (fun hc => ?_) (fun hc => ?_)
  · replace h := h.1 hc
    refine r_aload_n hV rfl rfl (pc' := 165) rfl ?_
    refine tt_getR hV (tg := 6) (ci := 12) (kf := 30) rfl rfl (by decide) (hB _ _ rfl) rfl (by decide) (pc' := 168) rfl ?_
    refine tt_bipush hV rfl (by decide) (pc' := 170) rfl ?_
    refine r_dup2 hV rfl rfl rfl (pc' := 171) rfl ?_
    refine q_iald hV rfl (hB _ _ rfl) (Nat.le_of_ble_eq_true rfl) rfl (by decide) (pc' := 172) rfl ?_
    refine r_iload_n hV rfl rfl (pc' := 173) rfl ?_
    refine tt_ior hV rfl (pc' := 174) rfl ?_
    refine q_iast hV rfl (hB _ _ rfl) (Nat.le_of_ble_eq_true rfl) rfl (by decide) (pc' := 175) rfl ?_
    refine r_aload_n hV rfl rfl (pc' := 176) rfl ?_
    refine tt_getR hV (tg := 6) (ci := 12) (kf := 30) rfl rfl (by decide) (hB _ _ rfl) rfl (by decide) (pc' := 179) rfl ?_
    refine tt_bipush hV rfl (by decide) (pc' := 181) rfl ?_
    refine r_aload_n hV rfl rfl (pc' := 182) rfl ?_
    refine r_aload_n hV rfl rfl (pc' := 183) rfl ?_
    refine tt_getR hV (tg := 6) (ci := 12) (kf := 30) rfl rfl (by decide) (hB _ _ rfl) rfl (by decide) (pc' := 186) rfl ?_
    refine tt_bipush hV rfl (by decide) (pc' := 188) rfl ?_
    refine q_iald hV rfl (hB _ _ rfl) (Nat.le_of_ble_eq_true rfl) rfl (by decide) (pc' := 189) rfl ?_
    refine vtI (y := m 101 22) (up_ne (Or.inr (by decide))) ?_
    refine r_aload_n hV rfl rfl (pc' := 190) rfl ?_
    refine r_iload_n hV rfl rfl (pc' := 191) rfl ?_
    refine tt_iconst hV rfl (pc' := 192) rfl ?_
    obtain ⟨v192, m192, h, hr⟩ := h
    refine tt_cv2I hV rfl rfl rfl (Wd_obj (hB _ _ rfl)) (Nat.le_of_ble_eq_true rfl) (Nat.le_of_ble_eq_true rfl) rfl hr (pc' := 195) rfl ?_
    refine tt_iconst hV rfl (pc' := 196) rfl ?_
    obtain ⟨g11, h⟩ := h
    refine tt_icmp_ne hV rfl g11 (by decide) (pt := 203) (by decide) (pf := 199) rfl (fun hc => ?_) (fun hc => ?_)
    · replace h := h.1 hc
      refine tt_iconst hV rfl (pc' := 204) rfl ?_
      obtain ⟨v204, m204, h, hr⟩ := h
      refine tt_cv2I hV rfl rfl rfl (Wd_obj (hB _ _ rfl)) (Nat.le_of_ble_eq_true rfl) (Nat.le_of_ble_eq_true rfl) rfl hr (pc' := 207) rfl ?_
      refine q_iast hV rfl (hB _ _ rfl) (Nat.le_of_ble_eq_true rfl) rfl (by decide) (pc' := 208) rfl ?_
      refine r_iload_n hV rfl rfl (pc' := 209) rfl ?_
      exact rq_ret (q := mI219) rfl rfl rfl h
    · replace h := h.2 (Decidable.not_not.mp hc)
      refine tt_iconst hV rfl (pc' := 200) rfl ?_
      refine r_goto hV rfl (pc' := 204) (by decide) ?_
      obtain ⟨v204, m204, h, hr⟩ := h
      refine tt_cv2I hV rfl rfl rfl (Wd_obj (hB _ _ rfl)) (Nat.le_of_ble_eq_true rfl) (Nat.le_of_ble_eq_true rfl) rfl hr (pc' := 207) rfl ?_
      refine q_iast hV rfl (hB _ _ rfl) (Nat.le_of_ble_eq_true rfl) rfl (by decide) (pc' := 208) rfl ?_
      refine r_iload_n hV rfl rfl (pc' := 209) rfl ?_
      exact rq_ret (q := mI219) rfl rfl rfl h
  · replace h := h.2 (Int.not_le.mp hc)
    refine r_iload_n hV rfl rfl (pc' := 120) rfl ?_
    refine r_aload_n hV rfl rfl (pc' := 121) rfl ?_
    refine r_iload hV rfl rfl (pc' := 123) rfl ?_
    obtain ⟨v123, m123, h, hr⟩ := h
    refine tt_cv1I hV rfl rfl rfl (Wd_obj (hB _ _ rfl)) (Nat.le_of_ble_eq_true rfl) (Nat.le_of_ble_eq_true rfl) rfl hr (pc' := 126) rfl ?_
    obtain ⟨g12, h⟩ := h
    refine tt_if_eq hV rfl g12 (pt := 155) (by decide) (pf := 129) rfl (fun hc => ?_) (fun hc => ?_)
    · replace h := h.1 hc
      refine tt_iconst hV rfl (pc' := 156) rfl ?_
      refine tt_ior hV rfl (pc' := 157) rfl ?_
      refine tt_istore3 hV rfl rfl (pc' := 158) rfl ?_
      refine tt_iinc4 hV rfl rfl (pc' := 161) rfl ?_
      refine r_goto hV rfl (pc' := 110) (by decide) ?_
      exact h
    · replace h := h.2 hc
      refine r_aload_n hV rfl rfl (pc' := 130) rfl ?_
      refine tt_getR hV (tg := 6) (ci := 12) (kf := 30) rfl rfl (by decide) (hB _ _ rfl) rfl (by decide) (pc' := 133) rfl ?_
      refine tt_bipush hV rfl (by decide) (pc' := 135) rfl ?_
      refine r_iload hV rfl rfl (pc' := 137) rfl ?_
      refine tt_iadd hV rfl (pc' := 138) rfl ?_
      refine vtI (y := l4 + 6) (by clear h; omega) ?_
      obtain ⟨g13, h⟩ := h
      refine q_iald hV rfl (hB _ _ rfl) (Nat.le_of_ble_eq_true rfl) rfl g13 (pc' := 139) rfl ?_
      refine r_aload_n hV rfl rfl (pc' := 140) rfl ?_
      refine r_iload_n hV rfl rfl (pc' := 141) rfl ?_
      refine tt_iconst hV rfl (pc' := 142) rfl ?_
      obtain ⟨v142, m142, h, hr⟩ := h
      refine tt_cv2I hV rfl rfl rfl (Wd_obj (hB _ _ rfl)) (Nat.le_of_ble_eq_true rfl) (Nat.le_of_ble_eq_true rfl) rfl hr (pc' := 145) rfl ?_
      obtain ⟨g14, h⟩ := h
      obtain ⟨g15, h⟩ := h
      refine tt_icmp_ge hV rfl g14 g15 (pt := 155) (by decide) (pf := 148) rfl (fun hc => ?_) (fun hc => ?_)
      · replace h := h.1 hc
        refine tt_iconst hV rfl (pc' := 156) rfl ?_
        refine tt_ior hV rfl (pc' := 157) rfl ?_
        refine tt_istore3 hV rfl rfl (pc' := 158) rfl ?_
        refine tt_iinc4 hV rfl rfl (pc' := 161) rfl ?_
        refine r_goto hV rfl (pc' := 110) (by decide) ?_
        exact h
      · replace h := h.2 (Int.not_le.mp hc)
        refine tt_iconst hV rfl (pc' := 149) rfl ?_
        refine r_iload hV rfl rfl (pc' := 151) rfl ?_
        refine tt_ishl hV rfl (pc' := 152) rfl ?_
        refine r_goto hV rfl (pc' := 156) (by decide) ?_
        refine tt_ior hV rfl (pc' := 157) rfl ?_
        refine tt_istore3 hV rfl rfl (pc' := 158) rfl ?_
        refine tt_iinc4 hV rfl rfl (pc' := 161) rfl ?_
        refine r_goto hV rfl (pc' := 110) (by decide) ?_
        exact h
theorem M_isLastw {X : Cx} {d : Nat} {m : Mm} {Q : Int → Mm → Prop} (hB : Bsh X.2.2.1) (h : (-2147483648 ≤ (m 101 21) ∧ (m 101 21) < 2147483648) ∧ (-2147483648 ≤ (m 98 3) ∧ (m 98 3) < 2147483648) ∧ (m 101 21 ≠ m 98 3 → Q 0 m) ∧ (m 101 21 = m 98 3 → Q 1 m)) : M_isLast X d m Q := by
  unfold M_isLast
  have hV : Clo (gP X.1 X.2.1) d 220 1 false (Rq (gP X.1 X.2.1) d 220 X.2.2.1 X.2.2.2 Q) := Rq_clo (q := mI220) rfl
  refine r_aload_n hV rfl rfl (pc' := 1) rfl ?_
  refine tt_getR hV (tg := 6) (ci := 12) (kf := 30) rfl rfl (by decide) (hB _ _ rfl) rfl (by decide) (pc' := 4) rfl ?_
  refine tt_bipush hV rfl (by decide) (pc' := 6) rfl ?_
  refine q_iald hV rfl (hB _ _ rfl) (Nat.le_of_ble_eq_true rfl) rfl (by decide) (pc' := 7) rfl ?_
  refine r_aload_n hV rfl rfl (pc' := 8) rfl ?_
  refine tt_getR hV (tg := 6) (ci := 12) (kf := 24) rfl rfl (by decide) (hB _ _ rfl) rfl (by decide) (pc' := 11) rfl ?_
  refine tt_iconst hV rfl (pc' := 12) rfl ?_
  refine q_iald hV rfl (hB _ _ rfl) (Nat.le_of_ble_eq_true rfl) rfl (by decide) (pc' := 13) rfl ?_
  obtain ⟨g1, h⟩ := h
  obtain ⟨g2, h⟩ := h
  refine tt_icmp_ne hV rfl g1 g2 (pt := 20) (by decide) (pf := 16) rfl (fun hc => ?_) (fun hc => ?_)
  · replace h := h.1 hc
    refine tt_iconst hV rfl (pc' := 21) rfl ?_
    exact rq_ret (q := mI220) rfl rfl rfl h
  · replace h := h.2 (Decidable.not_not.mp hc)
    refine tt_iconst hV rfl (pc' := 17) rfl ?_
    refine r_goto hV rfl (pc' := 21) (by decide) ?_
    exact rq_ret (q := mI220) rfl rfl rfl h
theorem M_slideDownw {X : Cx} {d : Nat} {m : Mm} {Q : Mm → Prop} (hB : Bsh X.2.2.1) (h : M_isLast X d m (fun v1 m1 => (-2147483648 ≤ v1 ∧ v1 < 2147483648) ∧ (v1 ≠ 0 → Q m1) ∧ (v1 = 0 → M_slide X d m1 (fun v8 m8 => M_slideDown X (d + 1) m8 Q)))) : M_slideDown X (d + 1) m Q := by
  unfold M_slideDown
  have hV : Clo (gP X.1 X.2.1) (d + 1) 221 1 false (Ru0 (gP X.1 X.2.1) (d + 1) 221 X.2.2.1 X.2.2.2 Q) := Ru0_clo (q := mI221) rfl
  refine r_aload_n hV rfl rfl (pc' := 1) rfl ?_
  obtain ⟨v1, m1, h, hr⟩ := h
  refine tt_cv0I hV rfl rfl rfl (Wd_obj (hB _ _ rfl)) (Nat.le_of_ble_eq_true rfl) (Nat.le_of_ble_eq_true rfl) rfl hr (pc' := 4) rfl ?_
  obtain ⟨g1, h⟩ := h
  refine tt_if_ne hV rfl g1 (pt := 15) (by decide) (pf := 7) rfl (fun hc => ?_) (fun hc => ?_)
  · replace h := h.1 hc
    exact ru0_ret (q := mI221) rfl rfl rfl h
  · replace h := h.2 (Decidable.not_not.mp hc)
    refine r_aload_n hV rfl rfl (pc' := 8) rfl ?_
    obtain ⟨v8, m8, h, hr⟩ := h
    refine tt_cv0I hV rfl rfl rfl (Wd_obj (hB _ _ rfl)) (Nat.le_of_ble_eq_true rfl) (Nat.le_of_ble_eq_true rfl) rfl hr (pc' := 11) rfl ?_
    refine r_pop hV rfl rfl (pc' := 12) rfl ?_
    refine r_goto hV rfl (pc' := 0) (by decide) ?_
    exact h
theorem M_passRoww {X : Cx} {d : Nat} {m : Mm} {Q : Mm → Prop} (hB : Bsh X.2.2.1) (h : M_sumNow X d m (fun v1 m1 => M_slide X d m1 (fun v6 m6 => (-2147483648 ≤ (m6 101 24) ∧ (m6 101 24) < 2147483648) ∧ (m6 101 24 ≠ 60 → M_passRow_68 X (d + 1) v1 v6 none m6 Q) ∧ (m6 101 24 = 60 → M_passRow_24 X (d + 1) v1 v6 3 m6 Q)))) : M_passRow X (d + 1) m Q := by
  unfold M_passRow
  have hV : Clo (gP X.1 X.2.1) (d + 1) 222 4 false (Ru0 (gP X.1 X.2.1) (d + 1) 222 X.2.2.1 X.2.2.2 Q) := Ru0_clo (q := mI222) rfl
  refine r_aload_n hV rfl rfl (pc' := 1) rfl ?_
  obtain ⟨v1, m1, h, hr⟩ := h
  refine tt_cv0I hV rfl rfl rfl (Wd_obj (hB _ _ rfl)) (Nat.le_of_ble_eq_true rfl) (Nat.le_of_ble_eq_true rfl) rfl hr (pc' := 4) rfl ?_
  refine tt_istore1 hV rfl rfl (pc' := 5) rfl ?_
  refine r_aload_n hV rfl rfl (pc' := 6) rfl ?_
  obtain ⟨v6, m6, h, hr⟩ := h
  refine tt_cv0I hV rfl rfl rfl (Wd_obj (hB _ _ rfl)) (Nat.le_of_ble_eq_true rfl) (Nat.le_of_ble_eq_true rfl) rfl hr (pc' := 9) rfl ?_
  refine tt_istore2 hV rfl rfl (pc' := 10) rfl ?_
  refine r_aload_n hV rfl rfl (pc' := 11) rfl ?_
  refine tt_getR hV (tg := 6) (ci := 12) (kf := 30) rfl rfl (by decide) (hB _ _ rfl) rfl (by decide) (pc' := 14) rfl ?_
  refine tt_bipush hV rfl (by decide) (pc' := 16) rfl ?_
  refine q_iald hV rfl (hB _ _ rfl) (Nat.le_of_ble_eq_true rfl) rfl (by decide) (pc' := 17) rfl ?_
  refine tt_bipush hV rfl (by decide) (pc' := 19) rfl ?_
  obtain ⟨g1, h⟩ := h
  refine tt_icmp_ne hV rfl g1 (by decide) (pt := 68) (by decide) (pf := 22) rfl (fun hc => ?_) (fun hc => ?_)
  · replace h := h.1 hc
    exact h
  · replace h := h.2 (Decidable.not_not.mp hc)
    refine tt_iconst hV rfl (pc' := 23) rfl ?_
    refine tt_istore3 hV rfl rfl (pc' := 24) rfl ?_
    exact h
theorem M_passRow_24w {X : Cx} {d : Nat} {l1 : Int} {l2 : Int} {l3 : Int} {m : Mm} {Q : Mm → Prop} (hB : Bsh X.2.2.1) (h : (-2147483648 ≤ l3 ∧ l3 < 2147483648) ∧ (180 ≤ l3 → M_passRow_68 X (d + 1) l1 l2 (some l3) (up m 101 24 (m 101 24 - 1)) Q) ∧ (l3 < 180 → (0 ≤ l3 + 25 ∧ l3 + 25 < 205) ∧ (0 ≤ l3 + 22 ∧ l3 + 22 < 205) ∧ M_passRow_24 X (d + 1) l1 l2 (l3 + 1) (up m 101 (l3 + 22) (m 101 (l3 + 25))) Q)) : M_passRow_24 X (d + 1) l1 l2 l3 m Q := by
  unfold M_passRow_24
  have hV : Clo (gP X.1 X.2.1) (d + 1) 222 4 false (Ru0 (gP X.1 X.2.1) (d + 1) 222 X.2.2.1 X.2.2.2 Q) := Ru0_clo (q := mI222) rfl
  refine r_iload_n hV rfl rfl (pc' := 25) rfl ?_
  refine tt_sipush hV rfl (by decide) (pc' := 28) rfl ?_
  obtain ⟨g2, h⟩ := h
  refine tt_icmp_ge hV rfl g2 (by decide) (pt := 57) (by decide) (pf := 31) rfl (fun hc => ?_) (fun hc => ?_)
  · replace h := h.1 hc
    refine r_aload_n hV rfl rfl (pc' := 58) rfl ?_
    refine tt_getR hV (tg := 6) (ci := 12) (kf := 30) rfl rfl (by decide) (hB _ _ rfl) rfl (by decide) (pc' := 61) rfl ?_
    refine tt_bipush hV rfl (by decide) (pc' := 63) rfl ?_
    refine r_dup2 hV rfl rfl rfl (pc' := 64) rfl ?_
    refine q_iald hV rfl (hB _ _ rfl) (Nat.le_of_ble_eq_true rfl) rfl (by decide) (pc' := 65) rfl ?_
    refine tt_iconst hV rfl (pc' := 66) rfl ?_
    refine tt_isub hV rfl (pc' := 67) rfl ?_
    refine q_iast hV rfl (hB _ _ rfl) (Nat.le_of_ble_eq_true rfl) rfl (by decide) (pc' := 68) rfl ?_
    exact h
  · replace h := h.2 (Int.not_le.mp hc)
    refine r_aload_n hV rfl rfl (pc' := 32) rfl ?_
    refine tt_getR hV (tg := 6) (ci := 12) (kf := 30) rfl rfl (by decide) (hB _ _ rfl) rfl (by decide) (pc' := 35) rfl ?_
    refine tt_bipush hV rfl (by decide) (pc' := 37) rfl ?_
    refine r_iload_n hV rfl rfl (pc' := 38) rfl ?_
    refine tt_iadd hV rfl (pc' := 39) rfl ?_
    refine vtI (y := l3 + 25) (by clear h; omega) ?_
    refine tt_iconst hV rfl (pc' := 40) rfl ?_
    refine tt_isub hV rfl (pc' := 41) rfl ?_
    refine vtI (y := l3 + 22) (by clear h; omega) ?_
    refine r_aload_n hV rfl rfl (pc' := 42) rfl ?_
    refine tt_getR hV (tg := 6) (ci := 12) (kf := 30) rfl rfl (by decide) (hB _ _ rfl) rfl (by decide) (pc' := 45) rfl ?_
    refine tt_bipush hV rfl (by decide) (pc' := 47) rfl ?_
    refine r_iload_n hV rfl rfl (pc' := 48) rfl ?_
    refine tt_iadd hV rfl (pc' := 49) rfl ?_
    refine vtI (y := l3 + 25) (by clear h; omega) ?_
    obtain ⟨g3, h⟩ := h
    refine q_iald hV rfl (hB _ _ rfl) (Nat.le_of_ble_eq_true rfl) rfl g3 (pc' := 50) rfl ?_
    obtain ⟨g4, h⟩ := h
    refine q_iast hV rfl (hB _ _ rfl) (Nat.le_of_ble_eq_true rfl) rfl g4 (pc' := 51) rfl ?_
    refine tt_iinc3 hV rfl rfl (pc' := 54) rfl ?_
    refine r_goto hV rfl (pc' := 24) (by decide) ?_
    exact h
theorem M_passRow_68w {X : Cx} {d : Nat} {l1 : Int} {l2 : Int} {o3 : Option Int} {m : Mm} {Q : Mm → Prop} (hB : Bsh X.2.2.1) (h : (0 ≤ 3 * (m 101 24) + 25 ∧ 3 * (m 101 24) + 25 < 205) ∧ (0 ≤ 3 * (m 101 24) + 26 ∧ 3 * (m 101 24) + 26 < 205) ∧ (0 ≤ 3 * (m 101 24) + 27 ∧ 3 * (m 101 24) + 27 < 205) ∧ Q (up (up (up (up m 101 (3 * (m 101 24) + 25) (m 101 22)) 101 (3 * (m 101 24) + 26) l1) 101 (3 * (m 101 24) + 27) l2) 101 24 ((up (up (up m 101 (3 * (m 101 24) + 25) (m 101 22)) 101 (3 * (m 101 24) + 26) l1) 101 (3 * (m 101 24) + 27) l2) 101 24 + 1))) : M_passRow_68 X (d + 1) l1 l2 o3 m Q := by
  unfold M_passRow_68
  have hV : Clo (gP X.1 X.2.1) (d + 1) 222 4 false (Ru0 (gP X.1 X.2.1) (d + 1) 222 X.2.2.1 X.2.2.2 Q) := Ru0_clo (q := mI222) rfl
  refine tt_bipush hV rfl (by decide) (pc' := 70) rfl ?_
  refine tt_iconst hV rfl (pc' := 71) rfl ?_
  refine r_aload_n hV rfl rfl (pc' := 72) rfl ?_
  refine tt_getR hV (tg := 6) (ci := 12) (kf := 30) rfl rfl (by decide) (hB _ _ rfl) rfl (by decide) (pc' := 75) rfl ?_
  refine tt_bipush hV rfl (by decide) (pc' := 77) rfl ?_
  refine q_iald hV rfl (hB _ _ rfl) (Nat.le_of_ble_eq_true rfl) rfl (by decide) (pc' := 78) rfl ?_
  refine tt_imul hV rfl (pc' := 79) rfl ?_
  refine vtI (y := 3 * (m 101 24)) (by clear h; omega) ?_
  refine tt_iadd hV rfl (pc' := 80) rfl ?_
  refine vtI (y := 3 * (m 101 24) + 25) (by clear h; omega) ?_
  refine tt_istore3 hV rfl rfl (pc' := 81) rfl ?_
  refine r_aload_n hV rfl rfl (pc' := 82) rfl ?_
  refine tt_getR hV (tg := 6) (ci := 12) (kf := 30) rfl rfl (by decide) (hB _ _ rfl) rfl (by decide) (pc' := 85) rfl ?_
  refine r_iload_n hV rfl rfl (pc' := 86) rfl ?_
  refine r_aload_n hV rfl rfl (pc' := 87) rfl ?_
  refine tt_getR hV (tg := 6) (ci := 12) (kf := 30) rfl rfl (by decide) (hB _ _ rfl) rfl (by decide) (pc' := 90) rfl ?_
  refine tt_bipush hV rfl (by decide) (pc' := 92) rfl ?_
  refine q_iald hV rfl (hB _ _ rfl) (Nat.le_of_ble_eq_true rfl) rfl (by decide) (pc' := 93) rfl ?_
  obtain ⟨g5, h⟩ := h
  refine q_iast hV rfl (hB _ _ rfl) (Nat.le_of_ble_eq_true rfl) rfl g5 (pc' := 94) rfl ?_
  refine r_aload_n hV rfl rfl (pc' := 95) rfl ?_
  refine tt_getR hV (tg := 6) (ci := 12) (kf := 30) rfl rfl (by decide) (hB _ _ rfl) rfl (by decide) (pc' := 98) rfl ?_
  refine r_iload_n hV rfl rfl (pc' := 99) rfl ?_
  refine tt_iconst hV rfl (pc' := 100) rfl ?_
  refine tt_iadd hV rfl (pc' := 101) rfl ?_
  refine vtI (y := 3 * (m 101 24) + 26) (by clear h; omega) ?_
  refine r_iload_n hV rfl rfl (pc' := 102) rfl ?_
  obtain ⟨g6, h⟩ := h
  refine q_iast hV rfl (hB _ _ rfl) (Nat.le_of_ble_eq_true rfl) rfl g6 (pc' := 103) rfl ?_
  refine r_aload_n hV rfl rfl (pc' := 104) rfl ?_
  refine tt_getR hV (tg := 6) (ci := 12) (kf := 30) rfl rfl (by decide) (hB _ _ rfl) rfl (by decide) (pc' := 107) rfl ?_
  refine r_iload_n hV rfl rfl (pc' := 108) rfl ?_
  refine tt_iconst hV rfl (pc' := 109) rfl ?_
  refine tt_iadd hV rfl (pc' := 110) rfl ?_
  refine vtI (y := 3 * (m 101 24) + 27) (by clear h; omega) ?_
  refine r_iload_n hV rfl rfl (pc' := 111) rfl ?_
  obtain ⟨g7, h⟩ := h
  refine q_iast hV rfl (hB _ _ rfl) (Nat.le_of_ble_eq_true rfl) rfl g7 (pc' := 112) rfl ?_
  refine r_aload_n hV rfl rfl (pc' := 113) rfl ?_
  refine tt_getR hV (tg := 6) (ci := 12) (kf := 30) rfl rfl (by decide) (hB _ _ rfl) rfl (by decide) (pc' := 116) rfl ?_
  refine tt_bipush hV rfl (by decide) (pc' := 118) rfl ?_
  refine r_dup2 hV rfl rfl rfl (pc' := 119) rfl ?_
  refine q_iald hV rfl (hB _ _ rfl) (Nat.le_of_ble_eq_true rfl) rfl (by decide) (pc' := 120) rfl ?_
  refine tt_iconst hV rfl (pc' := 121) rfl ?_
  refine tt_iadd hV rfl (pc' := 122) rfl ?_
  refine q_iast hV rfl (hB _ _ rfl) (Nat.le_of_ble_eq_true rfl) rfl (by decide) (pc' := 123) rfl ?_
  exact ru0_ret (q := mI222) rfl rfl rfl h
theorem M_sideOfw {X : Cx} {d : Nat} {x : Int} {m : Mm} {Q : Int → Mm → Prop} (hB : Bsh X.2.2.1) (h : (-2147483648 ≤ x ∧ x < 2147483648) ∧ ((iDv (m 98 0) 2) ≤ x → (x ≤ (iDv (m 98 0 - 1) 2) → Q 1 m) ∧ ((iDv (m 98 0 - 1) 2) < x → Q 2 m)) ∧ (x < (iDv (m 98 0) 2) → Q 0 m)) : M_sideOf X d x m Q := by
  unfold M_sideOf
  have hV : Clo (gP X.1 X.2.1) d 223 2 false (Rq (gP X.1 X.2.1) d 223 X.2.2.1 X.2.2.2 Q) := Rq_clo (q := mI223) rfl
  refine r_iload_n hV rfl rfl (pc' := 1) rfl ?_
  refine r_aload_n hV rfl rfl (pc' := 2) rfl ?_
  refine tt_getR hV (tg := 6) (ci := 12) (kf := 24) rfl rfl (by decide) (hB _ _ rfl) rfl (by decide) (pc' := 5) rfl ?_
  refine tt_iconst hV rfl (pc' := 6) rfl ?_
  refine q_iald hV rfl (hB _ _ rfl) (Nat.le_of_ble_eq_true rfl) rfl (by decide) (pc' := 7) rfl ?_
  refine tt_iconst hV rfl (pc' := 8) rfl ?_
  refine tt_idiv hV rfl (by decide) (pc' := 9) rfl ?_
  obtain ⟨g1, h⟩ := h
  refine tt_icmp_ge hV rfl g1 (i32R _) (pt := 16) (by decide) (pf := 12) rfl (fun hc => ?_) (fun hc => ?_)
  · replace h := h.1 hc
    refine r_iload_n hV rfl rfl (pc' := 17) rfl ?_
    refine r_aload_n hV rfl rfl (pc' := 18) rfl ?_
    refine tt_getR hV (tg := 6) (ci := 12) (kf := 24) rfl rfl (by decide) (hB _ _ rfl) rfl (by decide) (pc' := 21) rfl ?_
    refine tt_iconst hV rfl (pc' := 22) rfl ?_
    refine q_iald hV rfl (hB _ _ rfl) (Nat.le_of_ble_eq_true rfl) rfl (by decide) (pc' := 23) rfl ?_
    refine tt_iconst hV rfl (pc' := 24) rfl ?_
    refine tt_isub hV rfl (pc' := 25) rfl ?_
    refine tt_iconst hV rfl (pc' := 26) rfl ?_
    refine tt_idiv hV rfl (by decide) (pc' := 27) rfl ?_
    refine tt_icmp_le hV rfl g1 (i32R _) (pt := 34) (by decide) (pf := 30) rfl (fun hc => ?_) (fun hc => ?_)
    · replace h := h.1 hc
      refine tt_iconst hV rfl (pc' := 35) rfl ?_
      exact rq_ret (q := mI223) rfl rfl rfl h
    · replace h := h.2 (Int.not_le.mp hc)
      refine tt_iconst hV rfl (pc' := 31) rfl ?_
      refine r_goto hV rfl (pc' := 35) (by decide) ?_
      exact rq_ret (q := mI223) rfl rfl rfl h
  · replace h := h.2 (Int.not_le.mp hc)
    refine tt_iconst hV rfl (pc' := 13) rfl ?_
    refine r_goto hV rfl (pc' := 35) (by decide) ?_
    exact rq_ret (q := mI223) rfl rfl rfl h
theorem M_rulew {X : Cx} {d : Nat} {x : Int} {m : Mm} {Q : Int → Mm → Prop} (hB : Bsh X.2.2.1) (h : (-2147483648 ≤ (m 83 28) ∧ (m 83 28) < 2147483648) ∧ (m 83 28 = 0 → Q (-1) m) ∧ (m 83 28 ≠ 0 → M_in X d x 0 4 m (fun v10 m10 => (-2147483648 ≤ v10 ∧ v10 < 2147483648) ∧ (v10 ≠ 0 → (-2147483648 ≤ x ∧ x < 2147483648) ∧ (x ≠ 4 → (0 ≤ x ∧ x < 5) ∧ Q (m10 98 x) m10) ∧ (x = 4 → Q (m10 101 20) m10)) ∧ (v10 = 0 → Q (-1) m10)))) : M_rule X (d + 1) x m Q := by
  unfold M_rule
  have hV : Clo (gP X.1 X.2.1) (d + 1) 224 2 false (Rq (gP X.1 X.2.1) (d + 1) 224 X.2.2.1 X.2.2.2 Q) := Rq_clo (q := mI224) rfl
  refine r_aload_n hV rfl rfl (pc' := 1) rfl ?_
  refine tt_getI hV (tg := 0) (ci := 12) (kf := 28) rfl rfl (by decide) (hB _ _ rfl) rfl (by decide) (pc' := 4) rfl ?_
  obtain ⟨g1, h⟩ := h
  refine tt_if_eq hV rfl g1 (pt := 16) (by decide) (pf := 7) rfl (fun hc => ?_) (fun hc => ?_)
  · replace h := h.1 hc
    refine tt_iconst hV rfl (pc' := 17) rfl ?_
    refine r_goto hV rfl (pc' := 41) (by decide) ?_
    exact rq_ret (q := mI224) rfl rfl rfl h
  · replace h := h.2 hc
    refine r_iload_n hV rfl rfl (pc' := 8) rfl ?_
    refine tt_iconst hV rfl (pc' := 9) rfl ?_
    refine tt_iconst hV rfl (pc' := 10) rfl ?_
    obtain ⟨v10, m10, h, hr⟩ := h
    refine tt_cs3I hV rfl rfl rfl (Nat.le_of_ble_eq_true rfl) (Nat.le_of_ble_eq_true rfl) rfl hr (pc' := 13) rfl ?_
    obtain ⟨g2, h⟩ := h
    refine tt_if_ne hV rfl g2 (pt := 20) (by decide) (pf := 16) rfl (fun hc => ?_) (fun hc => ?_)
    · replace h := h.1 hc
      refine r_iload_n hV rfl rfl (pc' := 21) rfl ?_
      refine tt_iconst hV rfl (pc' := 22) rfl ?_
      obtain ⟨g3, h⟩ := h
      refine tt_icmp_ne hV rfl g3 (by decide) (pt := 35) (by decide) (pf := 25) rfl (fun hc => ?_) (fun hc => ?_)
      · replace h := h.1 hc
        refine r_aload_n hV rfl rfl (pc' := 36) rfl ?_
        refine tt_getR hV (tg := 6) (ci := 12) (kf := 24) rfl rfl (by decide) (hB _ _ rfl) rfl (by decide) (pc' := 39) rfl ?_
        refine r_iload_n hV rfl rfl (pc' := 40) rfl ?_
        obtain ⟨g4, h⟩ := h
        refine q_iald hV rfl (hB _ _ rfl) (Nat.le_of_ble_eq_true rfl) rfl g4 (pc' := 41) rfl ?_
        exact rq_ret (q := mI224) rfl rfl rfl h
      · replace h := h.2 (Decidable.not_not.mp hc)
        refine r_aload_n hV rfl rfl (pc' := 26) rfl ?_
        refine tt_getR hV (tg := 6) (ci := 12) (kf := 30) rfl rfl (by decide) (hB _ _ rfl) rfl (by decide) (pc' := 29) rfl ?_
        refine tt_bipush hV rfl (by decide) (pc' := 31) rfl ?_
        refine q_iald hV rfl (hB _ _ rfl) (Nat.le_of_ble_eq_true rfl) rfl (by decide) (pc' := 32) rfl ?_
        refine r_goto hV rfl (pc' := 41) (by decide) ?_
        exact rq_ret (q := mI224) rfl rfl rfl h
    · replace h := h.2 (Decidable.not_not.mp hc)
      refine tt_iconst hV rfl (pc' := 17) rfl ?_
      refine r_goto hV rfl (pc' := 41) (by decide) ?_
      exact rq_ret (q := mI224) rfl rfl rfl h
theorem M_bumpw {X : Cx} {d : Nat} {x : Int} {y : Int} {m : Mm} {Q : Int → Mm → Prop} (hB : Bsh X.2.2.1) (h : M_isBump X d x m (fun v2 m2 => (-2147483648 ≤ v2 ∧ v2 < 2147483648) ∧ (v2 = 0 → Q (-1) m2) ∧ (v2 ≠ 0 → M_in X d y 0 4 m2 (fun v11 m11 => (-2147483648 ≤ v11 ∧ v11 < 2147483648) ∧ (v11 ≠ 0 → (-2147483648 ≤ y ∧ y < 2147483648) ∧ (y ≠ 4 → M_ofBump X d x y m11 (fun v43 m43 => Q v43 m43)) ∧ (y = 4 → Q ((iA ((iSr (m11 101 19) x)) 1)) m11)) ∧ (v11 = 0 → Q (-1) m11))))) : M_bump X (d + 1) x y m Q := by
  unfold M_bump
  have hV : Clo (gP X.1 X.2.1) (d + 1) 225 3 false (Rq (gP X.1 X.2.1) (d + 1) 225 X.2.2.1 X.2.2.2 Q) := Rq_clo (q := mI225) rfl
  refine r_aload_n hV rfl rfl (pc' := 1) rfl ?_
  refine r_iload_n hV rfl rfl (pc' := 2) rfl ?_
  obtain ⟨v2, m2, h, hr⟩ := h
  refine tt_cv1I hV rfl rfl rfl (Wd_obj (hB _ _ rfl)) (Nat.le_of_ble_eq_true rfl) (Nat.le_of_ble_eq_true rfl) rfl hr (pc' := 5) rfl ?_
  obtain ⟨g1, h⟩ := h
  refine tt_if_eq hV rfl g1 (pt := 17) (by decide) (pf := 8) rfl (fun hc => ?_) (fun hc => ?_)
  · replace h := h.1 hc
    refine tt_iconst hV rfl (pc' := 18) rfl ?_
    refine r_goto hV rfl (pc' := 46) (by decide) ?_
    exact rq_ret (q := mI225) rfl rfl rfl h
  · replace h := h.2 hc
    refine r_iload_n hV rfl rfl (pc' := 9) rfl ?_
    refine tt_iconst hV rfl (pc' := 10) rfl ?_
    refine tt_iconst hV rfl (pc' := 11) rfl ?_
    obtain ⟨v11, m11, h, hr⟩ := h
    refine tt_cs3I hV rfl rfl rfl (Nat.le_of_ble_eq_true rfl) (Nat.le_of_ble_eq_true rfl) rfl hr (pc' := 14) rfl ?_
    obtain ⟨g2, h⟩ := h
    refine tt_if_ne hV rfl g2 (pt := 21) (by decide) (pf := 17) rfl (fun hc => ?_) (fun hc => ?_)
    · replace h := h.1 hc
      refine r_iload_n hV rfl rfl (pc' := 22) rfl ?_
      refine tt_iconst hV rfl (pc' := 23) rfl ?_
      obtain ⟨g3, h⟩ := h
      refine tt_icmp_ne hV rfl g3 (by decide) (pt := 40) (by decide) (pf := 26) rfl (fun hc => ?_) (fun hc => ?_)
      · replace h := h.1 hc
        refine r_aload_n hV rfl rfl (pc' := 41) rfl ?_
        refine r_iload_n hV rfl rfl (pc' := 42) rfl ?_
        refine r_iload_n hV rfl rfl (pc' := 43) rfl ?_
        obtain ⟨v43, m43, h, hr⟩ := h
        refine tt_cv2I hV rfl rfl rfl (Wd_obj (hB _ _ rfl)) (Nat.le_of_ble_eq_true rfl) (Nat.le_of_ble_eq_true rfl) rfl hr (pc' := 46) rfl ?_
        exact rq_ret (q := mI225) rfl rfl rfl h
      · replace h := h.2 (Decidable.not_not.mp hc)
        refine r_aload_n hV rfl rfl (pc' := 27) rfl ?_
        refine tt_getR hV (tg := 6) (ci := 12) (kf := 30) rfl rfl (by decide) (hB _ _ rfl) rfl (by decide) (pc' := 30) rfl ?_
        refine tt_bipush hV rfl (by decide) (pc' := 32) rfl ?_
        refine q_iald hV rfl (hB _ _ rfl) (Nat.le_of_ble_eq_true rfl) rfl (by decide) (pc' := 33) rfl ?_
        refine r_iload_n hV rfl rfl (pc' := 34) rfl ?_
        refine tt_ishr hV rfl (pc' := 35) rfl ?_
        refine tt_iconst hV rfl (pc' := 36) rfl ?_
        refine tt_iand hV rfl (pc' := 37) rfl ?_
        refine r_goto hV rfl (pc' := 46) (by decide) ?_
        exact rq_ret (q := mI225) rfl rfl rfl h
    · replace h := h.2 (Decidable.not_not.mp hc)
      refine tt_iconst hV rfl (pc' := 18) rfl ?_
      refine r_goto hV rfl (pc' := 46) (by decide) ?_
      exact rq_ret (q := mI225) rfl rfl rfl h
theorem M_memberw {X : Cx} {d : Nat} {x : Int} {y : Int} {m : Mm} {Q : Int → Mm → Prop} (hB : Bsh X.2.2.1) (h : M_isMember X d x m (fun v3 m3 => (-2147483648 ≤ v3 ∧ v3 < 2147483648) ∧ (v3 = 0 → Q 0 (up m3 83 0 1)) ∧ (v3 ≠ 0 → M_in X d y 0 6 m3 (fun v13 m13 => (-2147483648 ≤ v13 ∧ v13 < 2147483648) ∧ (v13 = 0 → Q 0 (up m13 83 0 1)) ∧ (v13 ≠ 0 → (-2147483648 ≤ y ∧ y < 2147483648) ∧ (y = 1 → (0 ≤ x ∧ x < 205) ∧ Q (m13 101 x) (up m13 83 0 0)) ∧ (y = 2 → (0 ≤ x + 6 ∧ x + 6 < 205) ∧ Q (m13 101 (x + 6)) (up m13 83 0 0)) ∧ (y = 3 → M_of X d x y (up m13 83 0 0) (fun v128 m128 => Q v128 m128)) ∧ (y = 4 → (0 ≤ x + 12 ∧ x + 12 < 205) ∧ Q (m13 101 (x + 12)) (up m13 83 0 0)) ∧ (y = 5 → M_isOn X d x (up m13 83 0 0) (fun v107 m107 => (-2147483648 ≤ v107 ∧ v107 < 2147483648) ∧ (v107 = 0 → Q 0 m107) ∧ (v107 ≠ 0 → Q 1 m107))) ∧ (y = 6 → M_pushOf X d x (up m13 83 0 0) (fun v121 m121 => Q v121 m121)) ∧ (y ≠ 1 ∧ y ≠ 2 ∧ y ≠ 3 ∧ y ≠ 4 ∧ y ≠ 5 ∧ y ≠ 6 → M_of X d x y (up m13 83 0 0) (fun v128 m128 => Q v128 m128))))))) : M_member X (d + 1) x y m Q := by
  unfold M_member
  have hV : Clo (gP X.1 X.2.1) (d + 1) 226 3 false (Rq (gP X.1 X.2.1) (d + 1) 226 X.2.2.1 X.2.2.2 Q) := Rq_clo (q := mI226) rfl
  refine r_aload_n hV rfl rfl (pc' := 1) rfl ?_
  refine r_aload_n hV rfl rfl (pc' := 2) rfl ?_
  refine r_iload_n hV rfl rfl (pc' := 3) rfl ?_
  obtain ⟨v3, m3, h, hr⟩ := h
  refine tt_cv1I hV rfl rfl rfl (Wd_obj (hB _ _ rfl)) (Nat.le_of_ble_eq_true rfl) (Nat.le_of_ble_eq_true rfl) rfl hr (pc' := 6) rfl ?_
  obtain ⟨g1, h⟩ := h
  refine tt_if_eq hV rfl g1 (pt := 23) (by decide) (pf := 9) rfl (fun hc => ?_) (fun hc => ?_)
  · replace h := h.1 hc
    refine tt_iconst hV rfl (pc' := 24) rfl ?_
    refine tt_putI hV (tg := 0) (ci := 12) (kf := 0) rfl rfl (Or.inl rfl) (hB _ _ rfl) rfl (by decide) rfl (pc' := 27) rfl ?_
    refine r_aload_n hV rfl rfl (pc' := 28) rfl ?_
    refine tt_getI hV (tg := 0) (ci := 12) (kf := 0) rfl rfl (by decide) (hB _ _ rfl) rfl (by decide) (pc' := 31) rfl ?_
    refine vtI (y := 1) (up_same _ _ _ _) ?_
    refine tt_iconst hV rfl (pc' := 32) rfl ?_
    refine tt_icmp_ne hV rfl (by decide) (by decide) (pt := 37) (by decide) (pf := 35) rfl (fun hc => absurd hc (by decide)) (fun hc => ?_)
    clear hc
    refine tt_iconst hV rfl (pc' := 36) rfl ?_
    exact rq_ret (q := mI226) rfl rfl rfl h
  · replace h := h.2 hc
    refine r_iload_n hV rfl rfl (pc' := 10) rfl ?_
    refine tt_iconst hV rfl (pc' := 11) rfl ?_
    refine tt_bipush hV rfl (by decide) (pc' := 13) rfl ?_
    obtain ⟨v13, m13, h, hr⟩ := h
    refine tt_cs3I hV rfl rfl rfl (Nat.le_of_ble_eq_true rfl) (Nat.le_of_ble_eq_true rfl) rfl hr (pc' := 16) rfl ?_
    obtain ⟨g2, h⟩ := h
    refine tt_if_eq hV rfl g2 (pt := 23) (by decide) (pf := 19) rfl (fun hc => ?_) (fun hc => ?_)
    · replace h := h.1 hc
      refine tt_iconst hV rfl (pc' := 24) rfl ?_
      refine tt_putI hV (tg := 0) (ci := 12) (kf := 0) rfl rfl (Or.inl rfl) (hB _ _ rfl) rfl (by decide) rfl (pc' := 27) rfl ?_
      refine r_aload_n hV rfl rfl (pc' := 28) rfl ?_
      refine tt_getI hV (tg := 0) (ci := 12) (kf := 0) rfl rfl (by decide) (hB _ _ rfl) rfl (by decide) (pc' := 31) rfl ?_
      refine vtI (y := 1) (up_same _ _ _ _) ?_
      refine tt_iconst hV rfl (pc' := 32) rfl ?_
      refine tt_icmp_ne hV rfl (by decide) (by decide) (pt := 37) (by decide) (pf := 35) rfl (fun hc => absurd hc (by decide)) (fun hc => ?_)
      clear hc
      refine tt_iconst hV rfl (pc' := 36) rfl ?_
      exact rq_ret (q := mI226) rfl rfl rfl h
    · replace h := h.2 hc
      refine tt_iconst hV rfl (pc' := 20) rfl ?_
      refine r_goto hV rfl (pc' := 24) (by decide) ?_
      refine tt_putI hV (tg := 0) (ci := 12) (kf := 0) rfl rfl (Or.inl rfl) (hB _ _ rfl) rfl (by decide) rfl (pc' := 27) rfl ?_
      refine r_aload_n hV rfl rfl (pc' := 28) rfl ?_
      refine tt_getI hV (tg := 0) (ci := 12) (kf := 0) rfl rfl (by decide) (hB _ _ rfl) rfl (by decide) (pc' := 31) rfl ?_
      refine vtI (y := 0) (up_same _ _ _ _) ?_
      refine tt_iconst hV rfl (pc' := 32) rfl ?_
      refine tt_icmp_ne hV rfl (by decide) (by decide) (pt := 37) (by decide) (pf := 35) rfl (fun hc => ?_) (fun hc => absurd (by decide) hc)
      clear hc
      refine r_iload_n hV rfl rfl (pc' := 38) rfl ?_
      obtain ⟨g3, h⟩ := h
      by_cases hc : y = 1
      · replace h := h.1 hc
        refine r_sw hV (pc' := 76) rfl (by decide) (by rw [hc]; rfl) ?_
        refine r_aload_n hV rfl rfl (pc' := 77) rfl ?_
        refine tt_getR hV (tg := 6) (ci := 12) (kf := 30) rfl rfl (by decide) (hB _ _ rfl) rfl (by decide) (pc' := 80) rfl ?_
        refine tt_iconst hV rfl (pc' := 81) rfl ?_
        refine r_iload_n hV rfl rfl (pc' := 82) rfl ?_
        refine tt_iadd hV rfl (pc' := 83) rfl ?_
        refine vtI (y := x) (by clear h; omega) ?_
        obtain ⟨g5, h⟩ := h
        refine q_iald hV rfl (hB _ _ rfl) (Nat.le_of_ble_eq_true rfl) rfl g5 (pc' := 84) rfl ?_
        refine vtI (y := m13 101 x) (up_ne (Or.inl (by decide))) ?_
        exact rq_ret (q := mI226) rfl rfl rfl h
      have hc4_0 := hc
      clear hc
      by_cases hc : y = 2
      · replace h := h.2.1 hc
        refine r_sw hV (pc' := 85) rfl (by decide) (by rw [hc]; rfl) ?_
        refine r_aload_n hV rfl rfl (pc' := 86) rfl ?_
        refine tt_getR hV (tg := 6) (ci := 12) (kf := 30) rfl rfl (by decide) (hB _ _ rfl) rfl (by decide) (pc' := 89) rfl ?_
        refine tt_bipush hV rfl (by decide) (pc' := 91) rfl ?_
        refine r_iload_n hV rfl rfl (pc' := 92) rfl ?_
        refine tt_iadd hV rfl (pc' := 93) rfl ?_
        refine vtI (y := x + 6) (by clear h; omega) ?_
        obtain ⟨g6, h⟩ := h
        refine q_iald hV rfl (hB _ _ rfl) (Nat.le_of_ble_eq_true rfl) rfl g6 (pc' := 94) rfl ?_
        refine vtI (y := m13 101 (x + 6)) (up_ne (Or.inl (by decide))) ?_
        exact rq_ret (q := mI226) rfl rfl rfl h
      have hc4_1 := hc
      clear hc
      by_cases hc : y = 3
      · replace h := h.2.2.1 hc
        refine r_sw hV (pc' := 125) rfl (by decide) (by rw [hc]; rfl) ?_
        refine r_aload_n hV rfl rfl (pc' := 126) rfl ?_
        refine r_iload_n hV rfl rfl (pc' := 127) rfl ?_
        refine r_iload_n hV rfl rfl (pc' := 128) rfl ?_
        obtain ⟨v128, m128, h, hr⟩ := h
        refine tt_cv2I hV rfl rfl rfl (Wd_obj (hB _ _ rfl)) (Nat.le_of_ble_eq_true rfl) (Nat.le_of_ble_eq_true rfl) rfl hr (pc' := 131) rfl ?_
        exact rq_ret (q := mI226) rfl rfl rfl h
      have hc4_2 := hc
      clear hc
      by_cases hc : y = 4
      · replace h := h.2.2.2.1 hc
        refine r_sw hV (pc' := 95) rfl (by decide) (by rw [hc]; rfl) ?_
        refine r_aload_n hV rfl rfl (pc' := 96) rfl ?_
        refine tt_getR hV (tg := 6) (ci := 12) (kf := 30) rfl rfl (by decide) (hB _ _ rfl) rfl (by decide) (pc' := 99) rfl ?_
        refine tt_bipush hV rfl (by decide) (pc' := 101) rfl ?_
        refine r_iload_n hV rfl rfl (pc' := 102) rfl ?_
        refine tt_iadd hV rfl (pc' := 103) rfl ?_
        refine vtI (y := x + 12) (by clear h; omega) ?_
        obtain ⟨g7, h⟩ := h
        refine q_iald hV rfl (hB _ _ rfl) (Nat.le_of_ble_eq_true rfl) rfl g7 (pc' := 104) rfl ?_
        refine vtI (y := m13 101 (x + 12)) (up_ne (Or.inl (by decide))) ?_
        exact rq_ret (q := mI226) rfl rfl rfl h
      have hc4_3 := hc
      clear hc
      by_cases hc : y = 5
      · replace h := h.2.2.2.2.1 hc
        refine r_sw hV (pc' := 105) rfl (by decide) (by rw [hc]; rfl) ?_
        refine r_aload_n hV rfl rfl (pc' := 106) rfl ?_
        refine r_iload_n hV rfl rfl (pc' := 107) rfl ?_
        obtain ⟨v107, m107, h, hr⟩ := h
        refine tt_cv1I hV rfl rfl rfl (Wd_obj (hB _ _ rfl)) (Nat.le_of_ble_eq_true rfl) (Nat.le_of_ble_eq_true rfl) rfl hr (pc' := 110) rfl ?_
        obtain ⟨g8, h⟩ := h
        refine tt_if_eq hV rfl g8 (pt := 117) (by decide) (pf := 113) rfl (fun hc => ?_) (fun hc => ?_)
        · replace h := h.1 hc
          refine tt_iconst hV rfl (pc' := 118) rfl ?_
          exact rq_ret (q := mI226) rfl rfl rfl h
        · replace h := h.2 hc
          refine tt_iconst hV rfl (pc' := 114) rfl ?_
          refine r_goto hV rfl (pc' := 118) (by decide) ?_
          exact rq_ret (q := mI226) rfl rfl rfl h
      have hc4_4 := hc
      clear hc
      by_cases hc : y = 6
      · replace h := h.2.2.2.2.2.1 hc
        refine r_sw hV (pc' := 119) rfl (by decide) (by rw [hc]; rfl) ?_
        refine r_aload_n hV rfl rfl (pc' := 120) rfl ?_
        refine r_iload_n hV rfl rfl (pc' := 121) rfl ?_
        obtain ⟨v121, m121, h, hr⟩ := h
        refine tt_cv1I hV rfl rfl rfl (Wd_obj (hB _ _ rfl)) (Nat.le_of_ble_eq_true rfl) (Nat.le_of_ble_eq_true rfl) rfl hr (pc' := 124) rfl ?_
        exact rq_ret (q := mI226) rfl rfl rfl h
      have hc4_5 := hc
      clear hc
      replace h := h.2.2.2.2.2.2 ⟨hc4_0, hc4_1, hc4_2, hc4_3, hc4_4, hc4_5⟩
      refine r_sw hV (pc' := 125) rfl (by decide) ?_ ?_
      · exact sw_tab g3 (by clear h; omega) (by decide)
      refine r_aload_n hV rfl rfl (pc' := 126) rfl ?_
      refine r_iload_n hV rfl rfl (pc' := 127) rfl ?_
      refine r_iload_n hV rfl rfl (pc' := 128) rfl ?_
      obtain ⟨v128, m128, h, hr⟩ := h
      refine tt_cv2I hV rfl rfl rfl (Wd_obj (hB _ _ rfl)) (Nat.le_of_ble_eq_true rfl) (Nat.le_of_ble_eq_true rfl) rfl hr (pc' := 131) rfl ?_
      exact rq_ret (q := mI226) rfl rfl rfl h
theorem M_laww {X : Cx} {d : Nat} {x : Int} {m : Mm} {Q : Int → Mm → Prop} (hB : Bsh X.2.2.1) (h : M_in X d x (-1) (m 83 13 - 1) m (fun v8 m8 => (-2147483648 ≤ v8 ∧ v8 < 2147483648) ∧ (v8 ≠ 0 → Q 1 (up m8 83 32 x)) ∧ (v8 = 0 → Q 0 m8))) : M_law X (d + 1) x m Q := by
  unfold M_law
  have hV : Clo (gP X.1 X.2.1) (d + 1) 227 2 false (Rq (gP X.1 X.2.1) (d + 1) 227 X.2.2.1 X.2.2.2 Q) := Rq_clo (q := mI227) rfl
  refine r_iload_n hV rfl rfl (pc' := 1) rfl ?_
  refine tt_iconst hV rfl (pc' := 2) rfl ?_
  refine r_aload_n hV rfl rfl (pc' := 3) rfl ?_
  refine tt_getI hV (tg := 0) (ci := 12) (kf := 13) rfl rfl (by decide) (hB _ _ rfl) rfl (by decide) (pc' := 6) rfl ?_
  refine tt_iconst hV rfl (pc' := 7) rfl ?_
  refine tt_isub hV rfl (pc' := 8) rfl ?_
  obtain ⟨v8, m8, h, hr⟩ := h
  refine tt_cs3I hV rfl rfl rfl (Nat.le_of_ble_eq_true rfl) (Nat.le_of_ble_eq_true rfl) rfl hr (pc' := 11) rfl ?_
  obtain ⟨g1, h⟩ := h
  refine tt_if_ne hV rfl g1 (pt := 16) (by decide) (pf := 14) rfl (fun hc => ?_) (fun hc => ?_)
  · replace h := h.1 hc
    refine r_aload_n hV rfl rfl (pc' := 17) rfl ?_
    refine r_iload_n hV rfl rfl (pc' := 18) rfl ?_
    refine tt_putI hV (tg := 0) (ci := 12) (kf := 32) rfl rfl (Or.inl rfl) (hB _ _ rfl) rfl (by decide) rfl (pc' := 21) rfl ?_
    refine tt_iconst hV rfl (pc' := 22) rfl ?_
    exact rq_ret (q := mI227) rfl rfl rfl h
  · replace h := h.2 (Decidable.not_not.mp hc)
    refine tt_iconst hV rfl (pc' := 15) rfl ?_
    exact rq_ret (q := mI227) rfl rfl rfl h
theorem M_keepw {X : Cx} {d : Nat} {m : Mm} {Q : Mm → Prop} (hB : Bsh X.2.2.1) (h : (-2147483648 ≤ (m 83 36) ∧ (m 83 36) < 2147483648) ∧ (m 83 36 ≠ 40 → M_keep_54 X d 0 m Q) ∧ (m 83 36 = 40 → M_keep_13 X d 205 m Q)) : M_keep X d m Q := by
  unfold M_keep
  have hV : Clo (gP X.1 X.2.1) d 228 2 false (Ru0 (gP X.1 X.2.1) d 228 X.2.2.1 X.2.2.2 Q) := Ru0_clo (q := mI228) rfl
  refine r_aload_n hV rfl rfl (pc' := 1) rfl ?_
  refine tt_getI hV (tg := 0) (ci := 12) (kf := 36) rfl rfl (by decide) (hB _ _ rfl) rfl (by decide) (pc' := 4) rfl ?_
  refine tt_bipush hV rfl (by decide) (pc' := 6) rfl ?_
  obtain ⟨g1, h⟩ := h
  refine tt_icmp_ne hV rfl g1 (by decide) (pt := 52) (by decide) (pf := 9) rfl (fun hc => ?_) (fun hc => ?_)
  · replace h := h.1 hc
    refine tt_iconst hV rfl (pc' := 53) rfl ?_
    refine tt_istore1 hV rfl rfl (pc' := 54) rfl ?_
    exact h
  · replace h := h.2 (Decidable.not_not.mp hc)
    refine tt_sipush hV rfl (by decide) (pc' := 12) rfl ?_
    refine tt_istore1 hV rfl rfl (pc' := 13) rfl ?_
    exact h
theorem M_keep_13w {X : Cx} {d : Nat} {l1 : Int} {m : Mm} {Q : Mm → Prop} (hB : Bsh X.2.2.1) (h : (-2147483648 ≤ l1 ∧ l1 < 2147483648) ∧ (8200 ≤ l1 → M_keep_54 X d 0 (up m 83 36 (m 83 36 - 1)) Q) ∧ (l1 < 8200 → (0 ≤ l1 ∧ l1 < 8200) ∧ (0 ≤ l1 - 205 ∧ l1 - 205 < 8200) ∧ M_keep_13 X d (l1 + 1) (up m 103 (l1 - 205) (m 103 l1)) Q)) : M_keep_13 X d l1 m Q := by
  unfold M_keep_13
  have hV : Clo (gP X.1 X.2.1) d 228 2 false (Ru0 (gP X.1 X.2.1) d 228 X.2.2.1 X.2.2.2 Q) := Ru0_clo (q := mI228) rfl
  refine r_iload_n hV rfl rfl (pc' := 14) rfl ?_
  refine tt_sipush hV rfl (by decide) (pc' := 17) rfl ?_
  obtain ⟨g2, h⟩ := h
  refine tt_icmp_ge hV rfl g2 (by decide) (pt := 42) (by decide) (pf := 20) rfl (fun hc => ?_) (fun hc => ?_)
  · replace h := h.1 hc
    refine r_aload_n hV rfl rfl (pc' := 43) rfl ?_
    refine r_dup hV rfl rfl (pc' := 44) rfl ?_
    refine tt_getI hV (tg := 0) (ci := 12) (kf := 36) rfl rfl (by decide) (hB _ _ rfl) rfl (by decide) (pc' := 47) rfl ?_
    refine tt_iconst hV rfl (pc' := 48) rfl ?_
    refine tt_isub hV rfl (pc' := 49) rfl ?_
    refine tt_putI hV (tg := 0) (ci := 12) (kf := 36) rfl rfl (Or.inl rfl) (hB _ _ rfl) rfl (by decide) rfl (pc' := 52) rfl ?_
    refine tt_iconst hV rfl (pc' := 53) rfl ?_
    refine tt_istore1 hV rfl rfl (pc' := 54) rfl ?_
    exact h
  · replace h := h.2 (Int.not_le.mp hc)
    refine r_aload_n hV rfl rfl (pc' := 21) rfl ?_
    refine tt_getR hV (tg := 6) (ci := 12) (kf := 35) rfl rfl (by decide) (hB _ _ rfl) rfl (by decide) (pc' := 24) rfl ?_
    refine r_iload_n hV rfl rfl (pc' := 25) rfl ?_
    refine tt_sipush hV rfl (by decide) (pc' := 28) rfl ?_
    refine tt_isub hV rfl (pc' := 29) rfl ?_
    refine r_aload_n hV rfl rfl (pc' := 30) rfl ?_
    refine tt_getR hV (tg := 6) (ci := 12) (kf := 35) rfl rfl (by decide) (hB _ _ rfl) rfl (by decide) (pc' := 33) rfl ?_
    refine r_iload_n hV rfl rfl (pc' := 34) rfl ?_
    obtain ⟨g3, h⟩ := h
    refine q_iald hV rfl (hB _ _ rfl) (Nat.le_of_ble_eq_true rfl) rfl g3 (pc' := 35) rfl ?_
    obtain ⟨g4, h⟩ := h
    refine q_iast hV rfl (hB _ _ rfl) (Nat.le_of_ble_eq_true rfl) rfl g4 (pc' := 36) rfl ?_
    refine tt_iinc1 hV rfl rfl (pc' := 39) rfl ?_
    refine r_goto hV rfl (pc' := 13) (by decide) ?_
    exact h
theorem M_keep_54w {X : Cx} {d : Nat} {l1 : Int} {m : Mm} {Q : Mm → Prop} (hB : Bsh X.2.2.1) (h : (-2147483648 ≤ l1 ∧ l1 < 2147483648) ∧ (205 ≤ l1 → Q (up m 83 36 (m 83 36 + 1))) ∧ (l1 < 205 → (0 ≤ l1 ∧ l1 < 205) ∧ (0 ≤ 205 * (m 83 36) + l1 ∧ 205 * (m 83 36) + l1 < 8200) ∧ M_keep_54 X d (l1 + 1) (up m 103 (205 * (m 83 36) + l1) (m 101 l1)) Q)) : M_keep_54 X d l1 m Q := by
  unfold M_keep_54
  have hV : Clo (gP X.1 X.2.1) d 228 2 false (Ru0 (gP X.1 X.2.1) d 228 X.2.2.1 X.2.2.2 Q) := Ru0_clo (q := mI228) rfl
  refine r_iload_n hV rfl rfl (pc' := 55) rfl ?_
  refine tt_sipush hV rfl (by decide) (pc' := 58) rfl ?_
  obtain ⟨g5, h⟩ := h
  refine tt_icmp_ge hV rfl g5 (by decide) (pt := 88) (by decide) (pf := 61) rfl (fun hc => ?_) (fun hc => ?_)
  · replace h := h.1 hc
    refine r_aload_n hV rfl rfl (pc' := 89) rfl ?_
    refine r_dup hV rfl rfl (pc' := 90) rfl ?_
    refine tt_getI hV (tg := 0) (ci := 12) (kf := 36) rfl rfl (by decide) (hB _ _ rfl) rfl (by decide) (pc' := 93) rfl ?_
    refine tt_iconst hV rfl (pc' := 94) rfl ?_
    refine tt_iadd hV rfl (pc' := 95) rfl ?_
    refine tt_putI hV (tg := 0) (ci := 12) (kf := 36) rfl rfl (Or.inl rfl) (hB _ _ rfl) rfl (by decide) rfl (pc' := 98) rfl ?_
    exact ru0_ret (q := mI228) rfl rfl rfl h
  · replace h := h.2 (Int.not_le.mp hc)
    refine r_aload_n hV rfl rfl (pc' := 62) rfl ?_
    refine tt_getR hV (tg := 6) (ci := 12) (kf := 35) rfl rfl (by decide) (hB _ _ rfl) rfl (by decide) (pc' := 65) rfl ?_
    refine tt_sipush hV rfl (by decide) (pc' := 68) rfl ?_
    refine r_aload_n hV rfl rfl (pc' := 69) rfl ?_
    refine tt_getI hV (tg := 0) (ci := 12) (kf := 36) rfl rfl (by decide) (hB _ _ rfl) rfl (by decide) (pc' := 72) rfl ?_
    refine tt_imul hV rfl (pc' := 73) rfl ?_
    refine vtI (y := 205 * (m 83 36)) (by clear h; omega) ?_
    refine r_iload_n hV rfl rfl (pc' := 74) rfl ?_
    refine tt_iadd hV rfl (pc' := 75) rfl ?_
    refine r_aload_n hV rfl rfl (pc' := 76) rfl ?_
    refine tt_getR hV (tg := 6) (ci := 12) (kf := 30) rfl rfl (by decide) (hB _ _ rfl) rfl (by decide) (pc' := 79) rfl ?_
    refine r_iload_n hV rfl rfl (pc' := 80) rfl ?_
    obtain ⟨g6, h⟩ := h
    refine q_iald hV rfl (hB _ _ rfl) (Nat.le_of_ble_eq_true rfl) rfl g6 (pc' := 81) rfl ?_
    obtain ⟨g7, h⟩ := h
    refine q_iast hV rfl (hB _ _ rfl) (Nat.le_of_ble_eq_true rfl) rfl g7 (pc' := 82) rfl ?_
    refine tt_iinc1 hV rfl rfl (pc' := 85) rfl ?_
    refine r_goto hV rfl (pc' := 54) (by decide) ?_
    exact h
