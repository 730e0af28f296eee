/-! ===== what is wanted at a place ===== -/
theorem J_comparew {X : Cx} {d : Nat} {x : Int} {y : Int} {m : Mm} {Q : Int → Mm → Prop} (hB : Bsh X.2.2.1) (h : (-2147483648 ≤ x ∧ x < 2147483648) ∧ (-2147483648 ≤ y ∧ y < 2147483648) ∧ (y ≤ x → (x ≠ y → Q 1 m) ∧ (x = y → Q 0 m)) ∧ (x < y → Q (-1) m)) : J_compare X d x y m Q := by
  unfold J_compare
  have hV : Clo (gP X.1 X.2.1) d 287 2 false (Rq (gP X.1 X.2.1) d 287 X.2.2.1 X.2.2.2 Q) := Rq_clo (q := mI287) rfl
  refine r_iload_n hV rfl rfl (pc' := 1) rfl ?_
  refine r_iload_n hV rfl rfl (pc' := 2) rfl ?_
  obtain ⟨g1, h⟩ := h
  obtain ⟨g2, h⟩ := h
  refine tt_icmp_ge hV rfl g1 g2 (pt := 9) (by decide) (pf := 5) rfl (fun hc => ?_) (fun hc => ?_)
  · replace h := h.1 hc
    refine r_iload_n hV rfl rfl (pc' := 10) rfl ?_
    refine r_iload_n hV rfl rfl (pc' := 11) rfl ?_
    refine tt_icmp_ne hV rfl g1 g2 (pt := 18) (by decide) (pf := 14) rfl (fun hc => ?_) (fun hc => ?_)
    · replace h := h.1 hc
      refine tt_iconst hV rfl (pc' := 19) rfl ?_
      exact rq_ret (q := mI287) rfl rfl rfl h
    · replace h := h.2 (Decidable.not_not.mp hc)
      refine tt_iconst hV rfl (pc' := 15) rfl ?_
      refine r_goto hV rfl (pc' := 19) (by decide) ?_
      exact rq_ret (q := mI287) rfl rfl rfl h
  · replace h := h.2 (Int.not_le.mp hc)
    refine tt_iconst hV rfl (pc' := 6) rfl ?_
    refine r_goto hV rfl (pc' := 19) (by decide) ?_
    exact rq_ret (q := mI287) rfl rfl rfl h
theorem J_bitCountw {X : Cx} {d : Nat} {x : Int} {m : Mm} {Q : Int → Mm → Prop} (hB : Bsh X.2.2.1) (h : Q ((iA ((iA ((iA (x - (iA ((iUr x 1)) 1431655765)) 858993459) + (iA ((iUr (x - (iA ((iUr x 1)) 1431655765)) 2)) 858993459) + (iUr ((iA (x - (iA ((iUr x 1)) 1431655765)) 858993459) + (iA ((iUr (x - (iA ((iUr x 1)) 1431655765)) 2)) 858993459)) 4)) 252645135) + (iUr ((iA ((iA (x - (iA ((iUr x 1)) 1431655765)) 858993459) + (iA ((iUr (x - (iA ((iUr x 1)) 1431655765)) 2)) 858993459) + (iUr ((iA (x - (iA ((iUr x 1)) 1431655765)) 858993459) + (iA ((iUr (x - (iA ((iUr x 1)) 1431655765)) 2)) 858993459)) 4)) 252645135)) 8) + (iUr ((iA ((iA (x - (iA ((iUr x 1)) 1431655765)) 858993459) + (iA ((iUr (x - (iA ((iUr x 1)) 1431655765)) 2)) 858993459) + (iUr ((iA (x - (iA ((iUr x 1)) 1431655765)) 858993459) + (iA ((iUr (x - (iA ((iUr x 1)) 1431655765)) 2)) 858993459)) 4)) 252645135) + (iUr ((iA ((iA (x - (iA ((iUr x 1)) 1431655765)) 858993459) + (iA ((iUr (x - (iA ((iUr x 1)) 1431655765)) 2)) 858993459) + (iUr ((iA (x - (iA ((iUr x 1)) 1431655765)) 858993459) + (iA ((iUr (x - (iA ((iUr x 1)) 1431655765)) 2)) 858993459)) 4)) 252645135)) 8)) 16)) 63)) m) : J_bitCount X d x m Q := by
  unfold J_bitCount
  have hV : Clo (gP X.1 X.2.1) d 288 1 false (Rq (gP X.1 X.2.1) d 288 X.2.2.1 X.2.2.2 Q) := Rq_clo (q := mI288) rfl
  refine r_iload_n hV rfl rfl (pc' := 1) rfl ?_
  refine r_iload_n hV rfl rfl (pc' := 2) rfl ?_
  refine tt_iconst hV rfl (pc' := 3) rfl ?_
  refine tt_iushr hV rfl (pc' := 4) rfl ?_
  refine v_ldcw hV (Int32.ofInt 1431655765) rfl rfl rfl (pc' := 7) rfl ?_
  refine tt_iand hV rfl (pc' := 8) rfl ?_
  refine tt_isub hV rfl (pc' := 9) rfl ?_
  refine tt_istore0 hV rfl rfl (pc' := 10) rfl ?_
  refine r_iload_n hV rfl rfl (pc' := 11) rfl ?_
  refine v_ldcw hV (Int32.ofInt 858993459) rfl rfl rfl (pc' := 14) rfl ?_
  refine tt_iand hV rfl (pc' := 15) rfl ?_
  refine r_iload_n hV rfl rfl (pc' := 16) rfl ?_
  refine tt_iconst hV rfl (pc' := 17) rfl ?_
  refine tt_iushr hV rfl (pc' := 18) rfl ?_
  refine v_ldcw hV (Int32.ofInt 858993459) rfl rfl rfl (pc' := 21) rfl ?_
  refine tt_iand hV rfl (pc' := 22) rfl ?_
  refine tt_iadd hV rfl (pc' := 23) rfl ?_
  refine tt_istore0 hV rfl rfl (pc' := 24) rfl ?_
  refine r_iload_n hV rfl rfl (pc' := 25) rfl ?_
  refine r_iload_n hV rfl rfl (pc' := 26) rfl ?_
  refine tt_iconst hV rfl (pc' := 27) rfl ?_
  refine tt_iushr hV rfl (pc' := 28) rfl ?_
  refine tt_iadd hV rfl (pc' := 29) rfl ?_
  refine v_ldcw hV (Int32.ofInt 252645135) rfl rfl rfl (pc' := 32) rfl ?_
  refine tt_iand hV rfl (pc' := 33) rfl ?_
  refine tt_istore0 hV rfl rfl (pc' := 34) rfl ?_
  refine r_iload_n hV rfl rfl (pc' := 35) rfl ?_
  refine r_iload_n hV rfl rfl (pc' := 36) rfl ?_
  refine tt_bipush hV rfl (by decide) (pc' := 38) rfl ?_
  refine tt_iushr hV rfl (pc' := 39) rfl ?_
  refine tt_iadd hV rfl (pc' := 40) rfl ?_
  refine tt_istore0 hV rfl rfl (pc' := 41) rfl ?_
  refine r_iload_n hV rfl rfl (pc' := 42) rfl ?_
  refine r_iload_n hV rfl rfl (pc' := 43) rfl ?_
  refine tt_bipush hV rfl (by decide) (pc' := 45) rfl ?_
  refine tt_iushr hV rfl (pc' := 46) rfl ?_
  refine tt_iadd hV rfl (pc' := 47) rfl ?_
  refine tt_istore0 hV rfl rfl (pc' := 48) rfl ?_
  refine r_iload_n hV rfl rfl (pc' := 49) rfl ?_
  refine tt_bipush hV rfl (by decide) (pc' := 51) rfl ?_
  refine tt_iand hV rfl (pc' := 52) rfl ?_
  exact rq_ret (q := mI288) rfl rfl rfl h
theorem A_fillw {X : Cx} {d : Nat} {fa : Nat} {x : Int} {m : Mm} {Q : Mm → Prop} (hB : Bsh X.2.2.1) (hfa : aO fa) (h : A_fill_5 X d fa x 0 ((aLen fa : Int)) m Q) : A_fill X d fa x m Q := by
  unfold A_fill
  have hV : Clo (gP X.1 X.2.1) d 300 4 false (Ru0 (gP X.1 X.2.1) d 300 X.2.2.1 X.2.2.2 Q) := Ru0_clo (q := mI300) rfl
  refine tt_iconst hV rfl (pc' := 1) rfl ?_
  refine tt_istore2 hV rfl rfl (pc' := 2) rfl ?_
  refine r_aload_n hV rfl rfl (pc' := 3) rfl ?_
  refine q_alen hV rfl (aSh hB hfa) (by decide) (z := (aLen fa : Int)) rfl (pc' := 4) rfl ?_
  refine tt_istore3 hV rfl rfl (pc' := 5) rfl ?_
  exact h
theorem A_fill_5w {X : Cx} {d : Nat} {fa : Nat} {x : Int} {l2 : Int} {l3 : Int} {m : Mm} {Q : Mm → Prop} (hB : Bsh X.2.2.1) (hfa : aO fa) (h : (-2147483648 ≤ l2 ∧ l2 < 2147483648) ∧ (-2147483648 ≤ l3 ∧ l3 < 2147483648) ∧ (l3 ≤ l2 → Q m) ∧ (l2 < l3 → (0 ≤ l2 ∧ l2 < (aLen fa : Int)) ∧ A_fill_5 X d fa x (l2 + 1) l3 (up m fa l2 x) Q)) : A_fill_5 X d fa x l2 l3 m Q := by
  unfold A_fill_5
  have hV : Clo (gP X.1 X.2.1) d 300 4 false (Ru0 (gP X.1 X.2.1) d 300 X.2.2.1 X.2.2.2 Q) := Ru0_clo (q := mI300) rfl
  refine r_iload_n hV rfl rfl (pc' := 6) rfl ?_
  refine r_iload_n hV rfl rfl (pc' := 7) rfl ?_
  obtain ⟨g1, h⟩ := h
  obtain ⟨g2, h⟩ := h
  refine tt_icmp_ge hV rfl g1 g2 (pt := 20) (by decide) (pf := 10) rfl (fun hc => ?_) (fun hc => ?_)
  · replace h := h.1 hc
    exact ru0_ret (q := mI300) rfl rfl rfl h
  · replace h := h.2 (Int.not_le.mp hc)
    refine r_aload_n hV rfl rfl (pc' := 11) rfl ?_
    refine r_iload_n hV rfl rfl (pc' := 12) rfl ?_
    refine r_iload_n hV rfl rfl (pc' := 13) rfl ?_
    obtain ⟨g3, h⟩ := h
    refine q_iast hV rfl (aSh hB hfa) (aLen_le fa) rfl g3 (pc' := 14) rfl ?_
    refine tt_iinc2 hV rfl rfl (pc' := 17) rfl ?_
    refine r_goto hV rfl (pc' := 5) (by decide) ?_
    exact h
theorem M_inw {X : Cx} {d : Nat} {x : Int} {y : Int} {z : Int} {m : Mm} {Q : Int → Mm → Prop} (hB : Bsh X.2.2.1) (h : (-2147483648 ≤ x ∧ x < 2147483648) ∧ (-2147483648 ≤ y ∧ y < 2147483648) ∧ (x < y → Q 0 m) ∧ (y ≤ x → (-2147483648 ≤ z ∧ z < 2147483648) ∧ (z < x → Q 0 m) ∧ (x ≤ z → Q 1 m))) : M_in X d x y z m Q := by
  unfold M_in
  have hV : Clo (gP X.1 X.2.1) d 163 3 false (Rq (gP X.1 X.2.1) d 163 X.2.2.1 X.2.2.2 Q) := Rq_clo (q := mI163) rfl
  refine r_iload_n hV rfl rfl (pc' := 1) rfl ?_
  refine r_iload_n hV rfl rfl (pc' := 2) rfl ?_
  obtain ⟨g1, h⟩ := h
  obtain ⟨g2, h⟩ := h
  refine tt_icmp_lt hV rfl g1 g2 (pt := 14) (by decide) (pf := 5) rfl (fun hc => ?_) (fun hc => ?_)
  · replace h := h.1 hc
    refine tt_iconst hV rfl (pc' := 15) rfl ?_
    exact rq_ret (q := mI163) rfl rfl rfl h
  · replace h := h.2 (Int.not_lt.mp hc)
    refine r_iload_n hV rfl rfl (pc' := 6) rfl ?_
    refine r_iload_n hV rfl rfl (pc' := 7) rfl ?_
    obtain ⟨g3, h⟩ := h
    refine tt_icmp_gt hV rfl g1 g3 (pt := 14) (by decide) (pf := 10) rfl (fun hc => ?_) (fun hc => ?_)
    · replace h := h.1 hc
      refine tt_iconst hV rfl (pc' := 15) rfl ?_
      exact rq_ret (q := mI163) rfl rfl rfl h
    · replace h := h.2 (Int.not_lt.mp hc)
      refine tt_iconst hV rfl (pc' := 11) rfl ?_
      refine r_goto hV rfl (pc' := 15) (by decide) ?_
      exact rq_ret (q := mI163) rfl rfl rfl h
theorem M_hasw {X : Cx} {d : Nat} {x : Int} {y : Int} {m : Mm} {Q : Int → Mm → Prop} (hB : Bsh X.2.2.1) (h : ((iA ((iSr x y)) 1) ≠ 1 → Q 0 m) ∧ ((iA ((iSr x y)) 1) = 1 → Q 1 m)) : M_has X d x y m Q := by
  unfold M_has
  have hV : Clo (gP X.1 X.2.1) d 164 2 false (Rq (gP X.1 X.2.1) d 164 X.2.2.1 X.2.2.2 Q) := Rq_clo (q := mI164) rfl
  refine r_iload_n hV rfl rfl (pc' := 1) rfl ?_
  refine r_iload_n hV rfl rfl (pc' := 2) rfl ?_
  refine tt_ishr hV rfl (pc' := 3) rfl ?_
  refine tt_iconst hV rfl (pc' := 4) rfl ?_
  refine tt_iand hV rfl (pc' := 5) rfl ?_
  refine tt_iconst hV rfl (pc' := 6) rfl ?_
  refine tt_icmp_ne hV rfl (i32R _) (by decide) (pt := 13) (by decide) (pf := 9) rfl (fun hc => ?_) (fun hc => ?_)
  · replace h := h.1 hc
    refine tt_iconst hV rfl (pc' := 14) rfl ?_
    exact rq_ret (q := mI164) rfl rfl rfl h
  · replace h := h.2 (Decidable.not_not.mp hc)
    refine tt_iconst hV rfl (pc' := 10) rfl ?_
    refine r_goto hV rfl (pc' := 14) (by decide) ?_
    exact rq_ret (q := mI164) rfl rfl rfl h
theorem M_thrownw {X : Cx} {d : Nat} {m : Mm} {Q : Int → Mm → Prop} (hB : Bsh X.2.2.1) (h : Q (m 83 0) m) : M_thrown X d m Q := by
  unfold M_thrown
  have hV : Clo (gP X.1 X.2.1) d 166 1 false (Rq (gP X.1 X.2.1) d 166 X.2.2.1 X.2.2.2 Q) := Rq_clo (q := mI166) rfl
  refine r_aload_n hV rfl rfl (pc' := 1) rfl ?_
  refine tt_getI hV (tg := 0) (ci := 12) (kf := 0) rfl rfl (by decide) (hB _ _ rfl) rfl (by decide) (pc' := 4) rfl ?_
  exact rq_ret (q := mI166) rfl rfl rfl h
theorem M_byteOfw {X : Cx} {d : Nat} {x : Int} {y : Int} {z : Int} {u : Int} {v : Int} {w : Int} {m : Mm} {Q : Int → Mm → Prop} (hB : Bsh X.2.2.1) (h : (-2147483648 ≤ w ∧ w < 2147483648) ∧ (4 ≤ w → (8 ≤ w → (12 ≤ w → (16 ≤ w → Q ((iA ((iSr v (-8 * (iRm w 4) + 24))) 255)) m) ∧ (w < 16 → Q ((iA ((iSr u (-8 * (iRm w 4) + 24))) 255)) m)) ∧ (w < 12 → Q ((iA ((iSr z (-8 * (iRm w 4) + 24))) 255)) m)) ∧ (w < 8 → Q ((iA ((iSr y (-8 * (iRm w 4) + 24))) 255)) m)) ∧ (w < 4 → Q ((iA ((iSr x (-8 * (iRm w 4) + 24))) 255)) m)) : M_byteOf X d x y z u v w m Q := by
  unfold M_byteOf
  have hV : Clo (gP X.1 X.2.1) d 167 7 false (Rq (gP X.1 X.2.1) d 167 X.2.2.1 X.2.2.2 Q) := Rq_clo (q := mI167) rfl
  refine r_iload hV rfl rfl (pc' := 2) rfl ?_
  refine tt_iconst hV rfl (pc' := 3) rfl ?_
  obtain ⟨g1, h⟩ := h
  refine tt_icmp_ge hV rfl g1 (by decide) (pt := 10) (by decide) (pf := 6) rfl (fun hc => ?_) (fun hc => ?_)
  · replace h := h.1 hc
    refine r_iload hV rfl rfl (pc' := 12) rfl ?_
    refine tt_bipush hV rfl (by decide) (pc' := 14) rfl ?_
    refine tt_icmp_ge hV rfl g1 (by decide) (pt := 21) (by decide) (pf := 17) rfl (fun hc => ?_) (fun hc => ?_)
    · replace h := h.1 hc
      refine r_iload hV rfl rfl (pc' := 23) rfl ?_
      refine tt_bipush hV rfl (by decide) (pc' := 25) rfl ?_
      refine tt_icmp_ge hV rfl g1 (by decide) (pt := 32) (by decide) (pf := 28) rfl (fun hc => ?_) (fun hc => ?_)
      · replace h := h.1 hc
        refine r_iload hV rfl rfl (pc' := 34) rfl ?_
        refine tt_bipush hV rfl (by decide) (pc' := 36) rfl ?_
        refine tt_icmp_ge hV rfl g1 (by decide) (pt := 43) (by decide) (pf := 39) rfl (fun hc => ?_) (fun hc => ?_)
        · replace h := h.1 hc
          refine r_iload hV rfl rfl (pc' := 45) rfl ?_
          refine tt_istore6 hV rfl rfl (pc' := 47) rfl ?_
          refine r_iload hV rfl rfl (pc' := 49) rfl ?_
          refine tt_bipush hV rfl (by decide) (pc' := 51) rfl ?_
          refine tt_bipush hV rfl (by decide) (pc' := 53) rfl ?_
          refine r_iload hV rfl rfl (pc' := 55) rfl ?_
          refine tt_iconst hV rfl (pc' := 56) rfl ?_
          refine tt_irem hV rfl (by decide) (pc' := 57) rfl ?_
          refine tt_imul hV rfl (pc' := 58) rfl ?_
          refine tt_isub hV rfl (pc' := 59) rfl ?_
          refine vtI (y := -8 * (iRm w 4) + 24) (by clear h; omega) ?_
          refine tt_ishr hV rfl (pc' := 60) rfl ?_
          refine tt_sipush hV rfl (by decide) (pc' := 63) rfl ?_
          refine tt_iand hV rfl (pc' := 64) rfl ?_
          exact rq_ret (q := mI167) rfl rfl rfl h
        · replace h := h.2 (Int.not_le.mp hc)
          refine r_iload_n hV rfl rfl (pc' := 40) rfl ?_
          refine r_goto hV rfl (pc' := 45) (by decide) ?_
          refine tt_istore6 hV rfl rfl (pc' := 47) rfl ?_
          refine r_iload hV rfl rfl (pc' := 49) rfl ?_
          refine tt_bipush hV rfl (by decide) (pc' := 51) rfl ?_
          refine tt_bipush hV rfl (by decide) (pc' := 53) rfl ?_
          refine r_iload hV rfl rfl (pc' := 55) rfl ?_
          refine tt_iconst hV rfl (pc' := 56) rfl ?_
          refine tt_irem hV rfl (by decide) (pc' := 57) rfl ?_
          refine tt_imul hV rfl (pc' := 58) rfl ?_
          refine tt_isub hV rfl (pc' := 59) rfl ?_
          refine vtI (y := -8 * (iRm w 4) + 24) (by clear h; omega) ?_
          refine tt_ishr hV rfl (pc' := 60) rfl ?_
          refine tt_sipush hV rfl (by decide) (pc' := 63) rfl ?_
          refine tt_iand hV rfl (pc' := 64) rfl ?_
          exact rq_ret (q := mI167) rfl rfl rfl h
      · replace h := h.2 (Int.not_le.mp hc)
        refine r_iload_n hV rfl rfl (pc' := 29) rfl ?_
        refine r_goto hV rfl (pc' := 45) (by decide) ?_
        refine tt_istore6 hV rfl rfl (pc' := 47) rfl ?_
        refine r_iload hV rfl rfl (pc' := 49) rfl ?_
        refine tt_bipush hV rfl (by decide) (pc' := 51) rfl ?_
        refine tt_bipush hV rfl (by decide) (pc' := 53) rfl ?_
        refine r_iload hV rfl rfl (pc' := 55) rfl ?_
        refine tt_iconst hV rfl (pc' := 56) rfl ?_
        refine tt_irem hV rfl (by decide) (pc' := 57) rfl ?_
        refine tt_imul hV rfl (pc' := 58) rfl ?_
        refine tt_isub hV rfl (pc' := 59) rfl ?_
        refine vtI (y := -8 * (iRm w 4) + 24) (by clear h; omega) ?_
        refine tt_ishr hV rfl (pc' := 60) rfl ?_
        refine tt_sipush hV rfl (by decide) (pc' := 63) rfl ?_
        refine tt_iand hV rfl (pc' := 64) rfl ?_
        exact rq_ret (q := mI167) rfl rfl rfl h
    · replace h := h.2 (Int.not_le.mp hc)
      refine r_iload_n hV rfl rfl (pc' := 18) rfl ?_
      refine r_goto hV rfl (pc' := 45) (by decide) ?_
      refine tt_istore6 hV rfl rfl (pc' := 47) rfl ?_
      refine r_iload hV rfl rfl (pc' := 49) rfl ?_
      refine tt_bipush hV rfl (by decide) (pc' := 51) rfl ?_
      refine tt_bipush hV rfl (by decide) (pc' := 53) rfl ?_
      refine r_iload hV rfl rfl (pc' := 55) rfl ?_
      refine tt_iconst hV rfl (pc' := 56) rfl ?_
      refine tt_irem hV rfl (by decide) (pc' := 57) rfl ?_
      refine tt_imul hV rfl (pc' := 58) rfl ?_
      refine tt_isub hV rfl (pc' := 59) rfl ?_
      refine vtI (y := -8 * (iRm w 4) + 24) (by clear h; omega) ?_
      refine tt_ishr hV rfl (pc' := 60) rfl ?_
      refine tt_sipush hV rfl (by decide) (pc' := 63) rfl ?_
      refine tt_iand hV rfl (pc' := 64) rfl ?_
      exact rq_ret (q := mI167) rfl rfl rfl h
  · replace h := h.2 (Int.not_le.mp hc)
    refine r_iload_n hV rfl rfl (pc' := 7) rfl ?_
    refine r_goto hV rfl (pc' := 45) (by decide) ?_
    refine tt_istore6 hV rfl rfl (pc' := 47) rfl ?_
    refine r_iload hV rfl rfl (pc' := 49) rfl ?_
    refine tt_bipush hV rfl (by decide) (pc' := 51) rfl ?_
    refine tt_bipush hV rfl (by decide) (pc' := 53) rfl ?_
    refine r_iload hV rfl rfl (pc' := 55) rfl ?_
    refine tt_iconst hV rfl (pc' := 56) rfl ?_
    refine tt_irem hV rfl (by decide) (pc' := 57) rfl ?_
    refine tt_imul hV rfl (pc' := 58) rfl ?_
    refine tt_isub hV rfl (pc' := 59) rfl ?_
    refine vtI (y := -8 * (iRm w 4) + 24) (by clear h; omega) ?_
    refine tt_ishr hV rfl (pc' := 60) rfl ?_
    refine tt_sipush hV rfl (by decide) (pc' := 63) rfl ?_
    refine tt_iand hV rfl (pc' := 64) rfl ?_
    exact rq_ret (q := mI167) rfl rfl rfl h
theorem M_feedw {X : Cx} {d : Nat} {x : Int} {y : Int} {z : Int} {u : Int} {v : Int} {m : Mm} {Q : Int → Mm → Prop} (hB : Bsh X.2.2.1) (h : M_feed_6 X (d + 1) x y z u v 0 0 m Q) : M_feed X (d + 1) x y z u v m Q := by
  unfold M_feed
  have hV : Clo (gP X.1 X.2.1) (d + 1) 168 9 false (Rq (gP X.1 X.2.1) (d + 1) 168 X.2.2.1 X.2.2.2 Q) := Rq_clo (q := mI168) rfl
  refine tt_iconst hV rfl (pc' := 1) rfl ?_
  refine tt_istore6 hV rfl rfl (pc' := 3) rfl ?_
  refine tt_iconst hV rfl (pc' := 4) rfl ?_
  refine tt_istore7 hV rfl rfl (pc' := 6) rfl ?_
  exact h
theorem M_feed_6w {X : Cx} {d : Nat} {x : Int} {y : Int} {z : Int} {u : Int} {v : Int} {l6 : Int} {l7 : Int} {m : Mm} {Q : Int → Mm → Prop} (hB : Bsh X.2.2.1) (h : (-2147483648 ≤ l7 ∧ l7 < 2147483648) ∧ (20 ≤ l7 → (-2147483648 ≤ (m 83 2 + l6) ∧ (m 83 2 + l6) < 2147483648) ∧ (m 83 2 + l6 ≤ 240 → M_feed_62 X (d + 1) x y z u v l6 0 none m Q) ∧ (240 < m 83 2 + l6 → Q (-1) m)) ∧ (l7 < 20 → M_byteOf X d x y z u v l7 m (fun v24 m24 => (-2147483648 ≤ v24 ∧ v24 < 2147483648) ∧ (v24 = 0 → M_feed_6 X (d + 1) x y z u v l6 (l7 + 1) m24 Q) ∧ (v24 ≠ 0 → M_feed_6 X (d + 1) x y z u v (l6 + 1) (l7 + 1) m24 Q)))) : M_feed_6 X (d + 1) x y z u v l6 l7 m Q := by
  unfold M_feed_6
  have hV : Clo (gP X.1 X.2.1) (d + 1) 168 9 false (Rq (gP X.1 X.2.1) (d + 1) 168 X.2.2.1 X.2.2.2 Q) := Rq_clo (q := mI168) rfl
  refine r_iload hV rfl rfl (pc' := 8) rfl ?_
  refine tt_bipush hV rfl (by decide) (pc' := 10) rfl ?_
  obtain ⟨g1, h⟩ := h
  refine tt_icmp_ge hV rfl g1 (by decide) (pt := 44) (by decide) (pf := 13) rfl (fun hc => ?_) (fun hc => ?_)
  · replace h := h.1 hc
    refine r_aload_n hV rfl rfl (pc' := 45) rfl ?_
    refine tt_getI hV (tg := 0) (ci := 12) (kf := 2) rfl rfl (by decide) (hB _ _ rfl) rfl (by decide) (pc' := 48) rfl ?_
    refine r_iload hV rfl rfl (pc' := 50) rfl ?_
    refine tt_iadd hV rfl (pc' := 51) rfl ?_
    refine tt_sipush hV rfl (by decide) (pc' := 54) rfl ?_
    obtain ⟨g2, h⟩ := h
    refine tt_icmp_le hV rfl g2 (by decide) (pt := 59) (by decide) (pf := 57) rfl (fun hc => ?_) (fun hc => ?_)
    · replace h := h.1 hc
      refine tt_iconst hV rfl (pc' := 60) rfl ?_
      refine tt_istore7 hV rfl rfl (pc' := 62) rfl ?_
      exact h
    · replace h := h.2 (Int.not_le.mp hc)
      refine tt_iconst hV rfl (pc' := 58) rfl ?_
      exact rq_ret (q := mI168) rfl rfl rfl h
  · replace h := h.2 (Int.not_le.mp hc)
    refine r_iload hV rfl rfl (pc' := 15) rfl ?_
    refine r_iload_n hV rfl rfl (pc' := 16) rfl ?_
    refine r_iload_n hV rfl rfl (pc' := 17) rfl ?_
    refine r_iload_n hV rfl rfl (pc' := 18) rfl ?_
    refine r_iload hV rfl rfl (pc' := 20) rfl ?_
    refine r_iload hV rfl rfl (pc' := 22) rfl ?_
    refine r_iload hV rfl rfl (pc' := 24) rfl ?_
    obtain ⟨v24, m24, h, hr⟩ := h
    refine tt_cs6I hV rfl rfl rfl (Nat.le_of_ble_eq_true rfl) (Nat.le_of_ble_eq_true rfl) rfl hr (pc' := 27) rfl ?_
    obtain ⟨g3, h⟩ := h
    refine tt_if_eq hV rfl g3 (pt := 34) (by decide) (pf := 30) rfl (fun hc => ?_) (fun hc => ?_)
    · replace h := h.1 hc
      refine tt_iconst hV rfl (pc' := 35) rfl ?_
      refine tt_iadd hV rfl (pc' := 36) rfl ?_
      refine vtI (y := l6) (by clear h; omega) ?_
      refine tt_istore6 hV rfl rfl (pc' := 38) rfl ?_
      refine tt_iinc7 hV rfl rfl (pc' := 41) rfl ?_
      refine r_goto hV rfl (pc' := 6) (by decide) ?_
      exact h
    · replace h := h.2 hc
      refine tt_iconst hV rfl (pc' := 31) rfl ?_
      refine r_goto hV rfl (pc' := 35) (by decide) ?_
      refine tt_iadd hV rfl (pc' := 36) rfl ?_
      refine tt_istore6 hV rfl rfl (pc' := 38) rfl ?_
      refine tt_iinc7 hV rfl rfl (pc' := 41) rfl ?_
      refine r_goto hV rfl (pc' := 6) (by decide) ?_
      exact h
theorem M_feed_62w {X : Cx} {d : Nat} {x : Int} {y : Int} {z : Int} {u : Int} {v : Int} {l6 : Int} {l7 : Int} {o8 : Option Int} {m : Mm} {Q : Int → Mm → Prop} (hB : Bsh X.2.2.1) (h : (-2147483648 ≤ l7 ∧ l7 < 2147483648) ∧ (20 ≤ l7 → Q (m 83 2) m) ∧ (l7 < 20 → M_byteOf X d x y z u v l7 m (fun v78 m78 => (-2147483648 ≤ v78 ∧ v78 < 2147483648) ∧ (v78 = 0 → M_feed_62 X (d + 1) x y z u v l6 (l7 + 1) (some v78) m78 Q) ∧ (v78 ≠ 0 → (0 ≤ m78 83 2 ∧ m78 83 2 < 240) ∧ M_feed_62 X (d + 1) x y z u v l6 (l7 + 1) (some v78) (up (up m78 84 (m78 83 2) v78) 83 2 (m78 83 2 + 1)) Q)))) : M_feed_62 X (d + 1) x y z u v l6 l7 o8 m Q := by
  unfold M_feed_62
  have hV : Clo (gP X.1 X.2.1) (d + 1) 168 9 false (Rq (gP X.1 X.2.1) (d + 1) 168 X.2.2.1 X.2.2.2 Q) := Rq_clo (q := mI168) rfl
  refine r_iload hV rfl rfl (pc' := 64) rfl ?_
  refine tt_bipush hV rfl (by decide) (pc' := 66) rfl ?_
  obtain ⟨g4, h⟩ := h
  refine tt_icmp_ge hV rfl g4 (by decide) (pt := 115) (by decide) (pf := 69) rfl (fun hc => ?_) (fun hc => ?_)
  · replace h := h.1 hc
    refine r_aload_n hV rfl rfl (pc' := 116) rfl ?_
    refine tt_getI hV (tg := 0) (ci := 12) (kf := 2) rfl rfl (by decide) (hB _ _ rfl) rfl (by decide) (pc' := 119) rfl ?_
    exact rq_ret (q := mI168) rfl rfl rfl h
  · replace h := h.2 (Int.not_le.mp hc)
    refine r_iload_n hV rfl rfl (pc' := 70) rfl ?_
    refine r_iload_n hV rfl rfl (pc' := 71) rfl ?_
    refine r_iload_n hV rfl rfl (pc' := 72) rfl ?_
    refine r_iload hV rfl rfl (pc' := 74) rfl ?_
    refine r_iload hV rfl rfl (pc' := 76) rfl ?_
    refine r_iload hV rfl rfl (pc' := 78) rfl ?_
    obtain ⟨v78, m78, h, hr⟩ := h
    refine tt_cs6I hV rfl rfl rfl (Nat.le_of_ble_eq_true rfl) (Nat.le_of_ble_eq_true rfl) rfl hr (pc' := 81) rfl ?_
    refine tt_istore8 hV rfl rfl (pc' := 83) rfl ?_
    refine r_iload hV rfl rfl (pc' := 85) rfl ?_
    obtain ⟨g5, h⟩ := h
    refine tt_if_eq hV rfl g5 (pt := 109) (by decide) (pf := 88) rfl (fun hc => ?_) (fun hc => ?_)
    · replace h := h.1 hc
      refine tt_iinc7 hV rfl rfl (pc' := 112) rfl ?_
      refine r_goto hV rfl (pc' := 62) (by decide) ?_
      exact h
    · replace h := h.2 hc
      refine r_aload_n hV rfl rfl (pc' := 89) rfl ?_
      refine tt_getR hV (tg := 6) (ci := 12) (kf := 1) rfl rfl (by decide) (hB _ _ rfl) rfl (by decide) (pc' := 92) rfl ?_
      refine r_aload_n hV rfl rfl (pc' := 93) rfl ?_
      refine tt_getI hV (tg := 0) (ci := 12) (kf := 2) rfl rfl (by decide) (hB _ _ rfl) rfl (by decide) (pc' := 96) rfl ?_
      refine r_iload hV rfl rfl (pc' := 98) rfl ?_
      obtain ⟨g6, h⟩ := h
      refine q_iast hV rfl (hB _ _ rfl) (Nat.le_of_ble_eq_true rfl) rfl g6 (pc' := 99) rfl ?_
      refine r_aload_n hV rfl rfl (pc' := 100) rfl ?_
      refine r_dup hV rfl rfl (pc' := 101) rfl ?_
      refine tt_getI hV (tg := 0) (ci := 12) (kf := 2) rfl rfl (by decide) (hB _ _ rfl) rfl (by decide) (pc' := 104) rfl ?_
      refine vtI (y := m78 83 2) (up_ne (Or.inl (by decide))) ?_
      refine tt_iconst hV rfl (pc' := 105) rfl ?_
      refine tt_iadd hV rfl (pc' := 106) rfl ?_
      refine tt_putI hV (tg := 0) (ci := 12) (kf := 2) rfl rfl (Or.inl rfl) (hB _ _ rfl) rfl (by decide) rfl (pc' := 109) rfl ?_
      refine tt_iinc7 hV rfl rfl (pc' := 112) rfl ?_
      refine r_goto hV rfl (pc' := 62) (by decide) ?_
      exact h
theorem M_endw {X : Cx} {d : Nat} {x : Int} {m : Mm} {Q : Int → Mm → Prop} (hB : Bsh X.2.2.1) (h : (-2147483648 ≤ x ∧ x < 2147483648) ∧ (x < 0 → Q 0 m) ∧ (0 ≤ x → (-2147483648 ≤ (m 83 2) ∧ (m 83 2) < 2147483648) ∧ (x ≤ m 83 2 → Q 1 (up m 83 2 x)) ∧ (m 83 2 < x → Q 0 m))) : M_end X d x m Q := by
  unfold M_end
  have hV : Clo (gP X.1 X.2.1) d 169 2 false (Rq (gP X.1 X.2.1) d 169 X.2.2.1 X.2.2.2 Q) := Rq_clo (q := mI169) rfl
  refine r_iload_n hV rfl rfl (pc' := 1) rfl ?_
  obtain ⟨g1, h⟩ := h
  refine tt_if_lt hV rfl g1 (pt := 12) (by decide) (pf := 4) rfl (fun hc => ?_) (fun hc => ?_)
  · replace h := h.1 hc
    refine tt_iconst hV rfl (pc' := 13) rfl ?_
    exact rq_ret (q := mI169) rfl rfl rfl h
  · replace h := h.2 (Int.not_lt.mp hc)
    refine r_iload_n hV rfl rfl (pc' := 5) rfl ?_
    refine r_aload_n hV rfl rfl (pc' := 6) rfl ?_
    refine tt_getI hV (tg := 0) (ci := 12) (kf := 2) rfl rfl (by decide) (hB _ _ rfl) rfl (by decide) (pc' := 9) rfl ?_
    obtain ⟨g2, h⟩ := h
    refine tt_icmp_le hV rfl g1 g2 (pt := 14) (by decide) (pf := 12) rfl (fun hc => ?_) (fun hc => ?_)
    · replace h := h.1 hc
      refine r_aload_n hV rfl rfl (pc' := 15) rfl ?_
      refine r_iload_n hV rfl rfl (pc' := 16) rfl ?_
      refine tt_putI hV (tg := 0) (ci := 12) (kf := 2) rfl rfl (Or.inl rfl) (hB _ _ rfl) rfl (by decide) rfl (pc' := 19) rfl ?_
      refine tt_iconst hV rfl (pc' := 20) rfl ?_
      exact rq_ret (q := mI169) rfl rfl rfl h
    · replace h := h.2 (Int.not_le.mp hc)
      refine tt_iconst hV rfl (pc' := 13) rfl ?_
      exact rq_ret (q := mI169) rfl rfl rfl h
theorem M_herew {X : Cx} {d : Nat} {m : Mm} {Q : Int → Mm → Prop} (hB : Bsh X.2.2.1) (h : (-2147483648 ≤ (m 83 3) ∧ (m 83 3) < 2147483648) ∧ (-2147483648 ≤ (m 83 2) ∧ (m 83 2) < 2147483648) ∧ (m 83 2 ≤ m 83 3 → Q (-1) m) ∧ (m 83 3 < m 83 2 → (0 ≤ m 83 3 ∧ m 83 3 < 240) ∧ Q (m 84 (m 83 3)) m)) : M_here X d m Q := by
  unfold M_here
  have hV : Clo (gP X.1 X.2.1) d 170 1 false (Rq (gP X.1 X.2.1) d 170 X.2.2.1 X.2.2.2 Q) := Rq_clo (q := mI170) rfl
  refine r_aload_n hV rfl rfl (pc' := 1) rfl ?_
  refine tt_getI hV (tg := 0) (ci := 12) (kf := 3) rfl rfl (by decide) (hB _ _ rfl) rfl (by decide) (pc' := 4) rfl ?_
  refine r_aload_n hV rfl rfl (pc' := 5) rfl ?_
  refine tt_getI hV (tg := 0) (ci := 12) (kf := 2) rfl rfl (by decide) (hB _ _ rfl) rfl (by decide) (pc' := 8) rfl ?_
  obtain ⟨g1, h⟩ := h
  obtain ⟨g2, h⟩ := h
  refine tt_icmp_ge hV rfl g1 g2 (pt := 23) (by decide) (pf := 11) rfl (fun hc => ?_) (fun hc => ?_)
  · replace h := h.1 hc
    refine tt_iconst hV rfl (pc' := 24) rfl ?_
    exact rq_ret (q := mI170) rfl rfl rfl h
  · replace h := h.2 (Int.not_le.mp hc)
    refine r_aload_n hV rfl rfl (pc' := 12) rfl ?_
    refine tt_getR hV (tg := 6) (ci := 12) (kf := 1) rfl rfl (by decide) (hB _ _ rfl) rfl (by decide) (pc' := 15) rfl ?_
    refine r_aload_n hV rfl rfl (pc' := 16) rfl ?_
    refine tt_getI hV (tg := 0) (ci := 12) (kf := 3) rfl rfl (by decide) (hB _ _ rfl) rfl (by decide) (pc' := 19) rfl ?_
    obtain ⟨g3, h⟩ := h
    refine q_iald hV rfl (hB _ _ rfl) (Nat.le_of_ble_eq_true rfl) rfl g3 (pc' := 20) rfl ?_
    refine r_goto hV rfl (pc' := 24) (by decide) ?_
    exact rq_ret (q := mI170) rfl rfl rfl h
theorem M_lookw {X : Cx} {d : Nat} {m : Mm} {Q : Int → Mm → Prop} (hB : Bsh X.2.2.1) (h : M_here X d m (fun v1 m1 => (-2147483648 ≤ v1 ∧ v1 < 2147483648) ∧ (v1 ≠ 32 → M_here X d m1 (fun v23 m23 => Q v23 m23)) ∧ (v1 = 32 → M_look X (d + 1) (up m1 83 3 (m1 83 3 + 1)) Q))) : M_look X (d + 1) m Q := by
  unfold M_look
  have hV : Clo (gP X.1 X.2.1) (d + 1) 171 1 false (Rq (gP X.1 X.2.1) (d + 1) 171 X.2.2.1 X.2.2.2 Q) := Rq_clo (q := mI171) rfl
  refine r_aload_n hV rfl rfl (pc' := 1) rfl ?_
  obtain ⟨v1, m1, h, hr⟩ := h
  refine tt_cv0I hV rfl rfl rfl (Wd_obj (hB _ _ rfl)) (Nat.le_of_ble_eq_true rfl) (Nat.le_of_ble_eq_true rfl) rfl hr (pc' := 4) rfl ?_
  refine tt_bipush hV rfl (by decide) (pc' := 6) rfl ?_
  obtain ⟨g1, h⟩ := h
  refine tt_icmp_ne hV rfl g1 (by decide) (pt := 22) (by decide) (pf := 9) rfl (fun hc => ?_) (fun hc => ?_)
  · replace h := h.1 hc
    refine r_aload_n hV rfl rfl (pc' := 23) rfl ?_
    obtain ⟨v23, m23, h, hr⟩ := h
    refine tt_cv0I hV rfl rfl rfl (Wd_obj (hB _ _ rfl)) (Nat.le_of_ble_eq_true rfl) (Nat.le_of_ble_eq_true rfl) rfl hr (pc' := 26) rfl ?_
    exact rq_ret (q := mI171) rfl rfl rfl h
  · replace h := h.2 (Decidable.not_not.mp hc)
    refine r_aload_n hV rfl rfl (pc' := 10) rfl ?_
    refine r_dup hV rfl rfl (pc' := 11) rfl ?_
    refine tt_getI hV (tg := 0) (ci := 12) (kf := 3) rfl rfl (by decide) (hB _ _ rfl) rfl (by decide) (pc' := 14) rfl ?_
    refine tt_iconst hV rfl (pc' := 15) rfl ?_
    refine tt_iadd hV rfl (pc' := 16) rfl ?_
    refine tt_putI hV (tg := 0) (ci := 12) (kf := 3) rfl rfl (Or.inl rfl) (hB _ _ rfl) rfl (by decide) rfl (pc' := 19) rfl ?_
    refine r_goto hV rfl (pc' := 0) (by decide) ?_
    exact h
theorem M_badw {X : Cx} {d : Nat} {m : Mm} {Q : Mm → Prop} (hB : Bsh X.2.2.1) (h : (-2147483648 ≤ (m 83 4) ∧ (m 83 4) < 2147483648) ∧ (m 83 4 ≠ -1 → Q (up m 83 4 (m 83 4))) ∧ (m 83 4 = -1 → Q (up m 83 4 (m 83 3)))) : M_bad X d m Q := by
  unfold M_bad
  have hV : Clo (gP X.1 X.2.1) d 172 1 false (Ru0 (gP X.1 X.2.1) d 172 X.2.2.1 X.2.2.2 Q) := Ru0_clo (q := mI172) rfl
  refine r_aload_n hV rfl rfl (pc' := 1) rfl ?_
  refine r_aload_n hV rfl rfl (pc' := 2) rfl ?_
  refine tt_getI hV (tg := 0) (ci := 12) (kf := 4) rfl rfl (by decide) (hB _ _ rfl) rfl (by decide) (pc' := 5) rfl ?_
  refine tt_iconst hV rfl (pc' := 6) rfl ?_
  obtain ⟨g1, h⟩ := h
  refine tt_icmp_ne hV rfl g1 (by decide) (pt := 16) (by decide) (pf := 9) rfl (fun hc => ?_) (fun hc => ?_)
  · replace h := h.1 hc
    refine r_aload_n hV rfl rfl (pc' := 17) rfl ?_
    refine tt_getI hV (tg := 0) (ci := 12) (kf := 4) rfl rfl (by decide) (hB _ _ rfl) rfl (by decide) (pc' := 20) rfl ?_
    refine tt_putI hV (tg := 0) (ci := 12) (kf := 4) rfl rfl (Or.inl rfl) (hB _ _ rfl) rfl (by decide) rfl (pc' := 23) rfl ?_
    exact ru0_ret (q := mI172) rfl rfl rfl h
  · replace h := h.2 (Decidable.not_not.mp hc)
    refine r_aload_n hV rfl rfl (pc' := 10) rfl ?_
    refine tt_getI hV (tg := 0) (ci := 12) (kf := 3) rfl rfl (by decide) (hB _ _ rfl) rfl (by decide) (pc' := 13) rfl ?_
    refine r_goto hV rfl (pc' := 20) (by decide) ?_
    refine tt_putI hV (tg := 0) (ci := 12) (kf := 4) rfl rfl (Or.inl rfl) (hB _ _ rfl) rfl (by decide) rfl (pc' := 23) rfl ?_
    exact ru0_ret (q := mI172) rfl rfl rfl h
theorem M_isDigitw {X : Cx} {d : Nat} {x : Int} {m : Mm} {Q : Int → Mm → Prop} (hB : Bsh X.2.2.1) (h : (-2147483648 ≤ x ∧ x < 2147483648) ∧ (x < 48 → Q 0 m) ∧ (48 ≤ x → (57 < x → Q 0 m) ∧ (x ≤ 57 → Q 1 m))) : M_isDigit X d x m Q := by
  unfold M_isDigit
  have hV : Clo (gP X.1 X.2.1) d 173 1 false (Rq (gP X.1 X.2.1) d 173 X.2.2.1 X.2.2.2 Q) := Rq_clo (q := mI173) rfl
  refine r_iload_n hV rfl rfl (pc' := 1) rfl ?_
  refine tt_bipush hV rfl (by decide) (pc' := 3) rfl ?_
  obtain ⟨g1, h⟩ := h
  refine tt_icmp_lt hV rfl g1 (by decide) (pt := 16) (by decide) (pf := 6) rfl (fun hc => ?_) (fun hc => ?_)
  · replace h := h.1 hc
    refine tt_iconst hV rfl (pc' := 17) rfl ?_
    exact rq_ret (q := mI173) rfl rfl rfl h
  · replace h := h.2 (Int.not_lt.mp hc)
    refine r_iload_n hV rfl rfl (pc' := 7) rfl ?_
    refine tt_bipush hV rfl (by decide) (pc' := 9) rfl ?_
    refine tt_icmp_gt hV rfl g1 (by decide) (pt := 16) (by decide) (pf := 12) rfl (fun hc => ?_) (fun hc => ?_)
    · replace h := h.1 hc
      refine tt_iconst hV rfl (pc' := 17) rfl ?_
      exact rq_ret (q := mI173) rfl rfl rfl h
    · replace h := h.2 (Int.not_lt.mp hc)
      refine tt_iconst hV rfl (pc' := 13) rfl ?_
      refine r_goto hV rfl (pc' := 17) (by decide) ?_
      exact rq_ret (q := mI173) rfl rfl rfl h
theorem M_putw {X : Cx} {d : Nat} {x : Int} {y : Int} {m : Mm} {Q : Mm → Prop} (hB : Bsh X.2.2.1) (h : (0 ≤ m 83 14 ∧ m 83 14 < 5) ∧ (0 ≤ 520 * (m 83 14) + m 87 (m 83 14) ∧ 520 * (m 83 14) + m 87 (m 83 14) < 2600) ∧ Q (up (up (up m 85 (520 * (m 83 14) + m 87 (m 83 14)) x) 86 (520 * (m 83 14) + m 87 (m 83 14)) y) 87 (m 83 14) (m 87 (m 83 14) + 1))) : M_put X d x y m Q := by
  unfold M_put
  have hV : Clo (gP X.1 X.2.1) d 174 3 false (Ru0 (gP X.1 X.2.1) d 174 X.2.2.1 X.2.2.2 Q) := Ru0_clo (q := mI174) rfl
  refine r_aload_n hV rfl rfl (pc' := 1) rfl ?_
  refine tt_getR hV (tg := 6) (ci := 12) (kf := 6) rfl rfl (by decide) (hB _ _ rfl) rfl (by decide) (pc' := 4) rfl ?_
  refine tt_sipush hV rfl (by decide) (pc' := 7) rfl ?_
  refine r_aload_n hV rfl rfl (pc' := 8) rfl ?_
  refine tt_getI hV (tg := 0) (ci := 12) (kf := 14) rfl rfl (by decide) (hB _ _ rfl) rfl (by decide) (pc' := 11) rfl ?_
  refine tt_imul hV rfl (pc' := 12) rfl ?_
  refine vtI (y := 520 * (m 83 14)) (by clear h; omega) ?_
  refine r_aload_n hV rfl rfl (pc' := 13) rfl ?_
  refine tt_getR hV (tg := 6) (ci := 12) (kf := 8) rfl rfl (by decide) (hB _ _ rfl) rfl (by decide) (pc' := 16) rfl ?_
  refine r_aload_n hV rfl rfl (pc' := 17) rfl ?_
  refine tt_getI hV (tg := 0) (ci := 12) (kf := 14) rfl rfl (by decide) (hB _ _ rfl) rfl (by decide) (pc' := 20) rfl ?_
  obtain ⟨g1, h⟩ := h
  refine q_iald hV rfl (hB _ _ rfl) (Nat.le_of_ble_eq_true rfl) rfl g1 (pc' := 21) rfl ?_
  refine tt_iadd hV rfl (pc' := 22) rfl ?_
  refine r_iload_n hV rfl rfl (pc' := 23) rfl ?_
  obtain ⟨g2, h⟩ := h
  refine q_iast hV rfl (hB _ _ rfl) (Nat.le_of_ble_eq_true rfl) rfl g2 (pc' := 24) rfl ?_
  refine r_aload_n hV rfl rfl (pc' := 25) rfl ?_
  refine tt_getR hV (tg := 6) (ci := 12) (kf := 7) rfl rfl (by decide) (hB _ _ rfl) rfl (by decide) (pc' := 28) rfl ?_
  refine tt_sipush hV rfl (by decide) (pc' := 31) rfl ?_
  refine r_aload_n hV rfl rfl (pc' := 32) rfl ?_
  refine tt_getI hV (tg := 0) (ci := 12) (kf := 14) rfl rfl (by decide) (hB _ _ rfl) rfl (by decide) (pc' := 35) rfl ?_
  refine vtI (y := m 83 14) (up_ne (Or.inl (by decide))) ?_
  refine tt_imul hV rfl (pc' := 36) rfl ?_
  refine vtI (y := 520 * (m 83 14)) (by clear h; omega) ?_
  refine r_aload_n hV rfl rfl (pc' := 37) rfl ?_
  refine tt_getR hV (tg := 6) (ci := 12) (kf := 8) rfl rfl (by decide) (hB _ _ rfl) rfl (by decide) (pc' := 40) rfl ?_
  refine r_aload_n hV rfl rfl (pc' := 41) rfl ?_
  refine tt_getI hV (tg := 0) (ci := 12) (kf := 14) rfl rfl (by decide) (hB _ _ rfl) rfl (by decide) (pc' := 44) rfl ?_
  refine vtI (y := m 83 14) (up_ne (Or.inl (by decide))) ?_
  refine q_iald hV rfl (hB _ _ rfl) (Nat.le_of_ble_eq_true rfl) rfl g1 (pc' := 45) rfl ?_
  refine vtI (y := m 87 (m 83 14)) (up_ne (Or.inl (by decide))) ?_
  refine tt_iadd hV rfl (pc' := 46) rfl ?_
  refine r_iload_n hV rfl rfl (pc' := 47) rfl ?_
  refine q_iast hV rfl (hB _ _ rfl) (Nat.le_of_ble_eq_true rfl) rfl g2 (pc' := 48) rfl ?_
  refine r_aload_n hV rfl rfl (pc' := 49) rfl ?_
  refine tt_getR hV (tg := 6) (ci := 12) (kf := 8) rfl rfl (by decide) (hB _ _ rfl) rfl (by decide) (pc' := 52) rfl ?_
  refine r_aload_n hV rfl rfl (pc' := 53) rfl ?_
  refine tt_getI hV (tg := 0) (ci := 12) (kf := 14) rfl rfl (by decide) (hB _ _ rfl) rfl (by decide) (pc' := 56) rfl ?_
  refine vtI (y := m 83 14) ((up_ne (Or.inl (by decide))).trans (up_ne (Or.inl (by decide)))) ?_
  refine r_dup2 hV rfl rfl rfl (pc' := 57) rfl ?_
  refine q_iald hV rfl (hB _ _ rfl) (Nat.le_of_ble_eq_true rfl) rfl g1 (pc' := 58) rfl ?_
  refine vtI (y := m 87 (m 83 14)) ((up_ne (Or.inl (by decide))).trans (up_ne (Or.inl (by decide)))) ?_
  refine tt_iconst hV rfl (pc' := 59) rfl ?_
  refine tt_iadd hV rfl (pc' := 60) rfl ?_
  refine q_iast hV rfl (hB _ _ rfl) (Nat.le_of_ble_eq_true rfl) rfl g1 (pc' := 61) rfl ?_
  exact ru0_ret (q := mI174) rfl rfl rfl h
theorem M_letterOfw {X : Cx} {d : Nat} {x : Int} {m : Mm} {Q : Int → Mm → Prop} (hB : Bsh X.2.2.1) (h : (-2147483648 ≤ x ∧ x < 2147483648) ∧ (x ≠ 119 → (x ≠ 104 → (x ≠ 112 → (x ≠ 110 → (x ≠ 114 → (x ≠ 99 → Q (-1) m) ∧ (x = 99 → Q 5 m)) ∧ (x = 114 → Q 4 m)) ∧ (x = 110 → Q 3 m)) ∧ (x = 112 → Q 2 m)) ∧ (x = 104 → Q 1 m)) ∧ (x = 119 → Q 0 m)) : M_letterOf X d x m Q := by
  unfold M_letterOf
  have hV : Clo (gP X.1 X.2.1) d 175 1 false (Rq (gP X.1 X.2.1) d 175 X.2.2.1 X.2.2.2 Q) := Rq_clo (q := mI175) rfl
  refine r_iload_n hV rfl rfl (pc' := 1) rfl ?_
  refine tt_bipush hV rfl (by decide) (pc' := 3) rfl ?_
  obtain ⟨g1, h⟩ := h
  refine tt_icmp_ne hV rfl g1 (by decide) (pt := 10) (by decide) (pf := 6) rfl (fun hc => ?_) (fun hc => ?_)
  · replace h := h.1 hc
    refine r_iload_n hV rfl rfl (pc' := 11) rfl ?_
    refine tt_bipush hV rfl (by decide) (pc' := 13) rfl ?_
    refine tt_icmp_ne hV rfl g1 (by decide) (pt := 20) (by decide) (pf := 16) rfl (fun hc => ?_) (fun hc => ?_)
    · replace h := h.1 hc
      refine r_iload_n hV rfl rfl (pc' := 21) rfl ?_
      refine tt_bipush hV rfl (by decide) (pc' := 23) rfl ?_
      refine tt_icmp_ne hV rfl g1 (by decide) (pt := 30) (by decide) (pf := 26) rfl (fun hc => ?_) (fun hc => ?_)
      · replace h := h.1 hc
        refine r_iload_n hV rfl rfl (pc' := 31) rfl ?_
        refine tt_bipush hV rfl (by decide) (pc' := 33) rfl ?_
        refine tt_icmp_ne hV rfl g1 (by decide) (pt := 40) (by decide) (pf := 36) rfl (fun hc => ?_) (fun hc => ?_)
        · replace h := h.1 hc
          refine r_iload_n hV rfl rfl (pc' := 41) rfl ?_
          refine tt_bipush hV rfl (by decide) (pc' := 43) rfl ?_
          refine tt_icmp_ne hV rfl g1 (by decide) (pt := 50) (by decide) (pf := 46) rfl (fun hc => ?_) (fun hc => ?_)
          · replace h := h.1 hc
            refine r_iload_n hV rfl rfl (pc' := 51) rfl ?_
            refine tt_bipush hV rfl (by decide) (pc' := 53) rfl ?_
            refine tt_icmp_ne hV rfl g1 (by decide) (pt := 60) (by decide) (pf := 56) rfl (fun hc => ?_) (fun hc => ?_)
            · replace h := h.1 hc
              refine tt_iconst hV rfl (pc' := 61) rfl ?_
              exact rq_ret (q := mI175) rfl rfl rfl h
            · replace h := h.2 (Decidable.not_not.mp hc)
              refine tt_iconst hV rfl (pc' := 57) rfl ?_
              refine r_goto hV rfl (pc' := 61) (by decide) ?_
              exact rq_ret (q := mI175) rfl rfl rfl h
          · replace h := h.2 (Decidable.not_not.mp hc)
            refine tt_iconst hV rfl (pc' := 47) rfl ?_
            refine r_goto hV rfl (pc' := 61) (by decide) ?_
            exact rq_ret (q := mI175) rfl rfl rfl h
        · replace h := h.2 (Decidable.not_not.mp hc)
          refine tt_iconst hV rfl (pc' := 37) rfl ?_
          refine r_goto hV rfl (pc' := 61) (by decide) ?_
          exact rq_ret (q := mI175) rfl rfl rfl h
      · replace h := h.2 (Decidable.not_not.mp hc)
        refine tt_iconst hV rfl (pc' := 27) rfl ?_
        refine r_goto hV rfl (pc' := 61) (by decide) ?_
        exact rq_ret (q := mI175) rfl rfl rfl h
    · replace h := h.2 (Decidable.not_not.mp hc)
      refine tt_iconst hV rfl (pc' := 17) rfl ?_
      refine r_goto hV rfl (pc' := 61) (by decide) ?_
      exact rq_ret (q := mI175) rfl rfl rfl h
  · replace h := h.2 (Decidable.not_not.mp hc)
    refine tt_iconst hV rfl (pc' := 7) rfl ?_
    refine r_goto hV rfl (pc' := 61) (by decide) ?_
    exact rq_ret (q := mI175) rfl rfl rfl h
theorem M_opensw {X : Cx} {d : Nat} {m : Mm} {Q : Mm → Prop} (hB : Bsh X.2.2.1) (h : (-2147483648 ≤ (m 83 5) ∧ (m 83 5) < 2147483648) ∧ (m 83 5 ≠ 6 → M_opens_13 X (d + 1) m Q) ∧ (m 83 5 = 6 → M_bad X d m (fun m10 => M_opens_13 X (d + 1) m10 Q))) : M_opens X (d + 1) m Q := by
  unfold M_opens
  have hV : Clo (gP X.1 X.2.1) (d + 1) 176 1 false (Ru0 (gP X.1 X.2.1) (d + 1) 176 X.2.2.1 X.2.2.2 Q) := Ru0_clo (q := mI176) rfl
  refine r_aload_n hV rfl rfl (pc' := 1) rfl ?_
  refine tt_getI hV (tg := 0) (ci := 12) (kf := 5) rfl rfl (by decide) (hB _ _ rfl) rfl (by decide) (pc' := 4) rfl ?_
  refine tt_bipush hV rfl (by decide) (pc' := 6) rfl ?_
  obtain ⟨g1, h⟩ := h
  refine tt_icmp_ne hV rfl g1 (by decide) (pt := 13) (by decide) (pf := 9) rfl (fun hc => ?_) (fun hc => ?_)
  · replace h := h.1 hc
    exact h
  · replace h := h.2 (Decidable.not_not.mp hc)
    refine r_aload_n hV rfl rfl (pc' := 10) rfl ?_
    obtain ⟨m10, h, hr⟩ := h
    refine tt_cv0U hV rfl rfl rfl (Wd_obj (hB _ _ rfl)) (Nat.le_of_ble_eq_true rfl) (Nat.le_of_ble_eq_true rfl) rfl hr (pc' := 13) rfl ?_
    exact h
theorem M_opens_13w {X : Cx} {d : Nat} {m : Mm} {Q : Mm → Prop} (hB : Bsh X.2.2.1) (h : Q (up (up m 83 5 (m 83 5 + 1)) 83 3 (m 83 3 + 1))) : M_opens_13 X (d + 1) m Q := by
  unfold M_opens_13
  have hV : Clo (gP X.1 X.2.1) (d + 1) 176 1 false (Ru0 (gP X.1 X.2.1) (d + 1) 176 X.2.2.1 X.2.2.2 Q) := Ru0_clo (q := mI176) rfl
  refine r_aload_n hV rfl rfl (pc' := 14) rfl ?_
  refine r_dup hV rfl rfl (pc' := 15) rfl ?_
  refine tt_getI hV (tg := 0) (ci := 12) (kf := 5) rfl rfl (by decide) (hB _ _ rfl) rfl (by decide) (pc' := 18) rfl ?_
  refine tt_iconst hV rfl (pc' := 19) rfl ?_
  refine tt_iadd hV rfl (pc' := 20) rfl ?_
  refine tt_putI hV (tg := 0) (ci := 12) (kf := 5) rfl rfl (Or.inl rfl) (hB _ _ rfl) rfl (by decide) rfl (pc' := 23) rfl ?_
  refine r_aload_n hV rfl rfl (pc' := 24) rfl ?_
  refine r_dup hV rfl rfl (pc' := 25) rfl ?_
  refine tt_getI hV (tg := 0) (ci := 12) (kf := 3) rfl rfl (by decide) (hB _ _ rfl) rfl (by decide) (pc' := 28) rfl ?_
  refine vtI (y := m 83 3) (up_ne (Or.inr (by decide))) ?_
  refine tt_iconst hV rfl (pc' := 29) rfl ?_
  refine tt_iadd hV rfl (pc' := 30) rfl ?_
  refine tt_putI hV (tg := 0) (ci := 12) (kf := 3) rfl rfl (Or.inl rfl) (hB _ _ rfl) rfl (by decide) rfl (pc' := 33) rfl ?_
  exact ru0_ret (q := mI176) rfl rfl rfl h
theorem M_closesw {X : Cx} {d : Nat} {x : Int} {m : Mm} {Q : Mm → Prop} (hB : Bsh X.2.2.1) (h : (-2147483648 ≤ (m 83 4) ∧ (m 83 4) < 2147483648) ∧ (m 83 4 ≠ -1 → M_closes_20 X (d + 1) x m Q) ∧ (m 83 4 = -1 → M_look X d m (fun v9 m9 => (-2147483648 ≤ v9 ∧ v9 < 2147483648) ∧ (-2147483648 ≤ x ∧ x < 2147483648) ∧ (v9 = x → M_closes_20 X (d + 1) x m9 Q) ∧ (v9 ≠ x → M_bad X d m9 (fun m17 => M_closes_20 X (d + 1) x m17 Q))))) : M_closes X (d + 1) x m Q := by
  unfold M_closes
  have hV : Clo (gP X.1 X.2.1) (d + 1) 177 2 false (Ru0 (gP X.1 X.2.1) (d + 1) 177 X.2.2.1 X.2.2.2 Q) := Ru0_clo (q := mI177) rfl
  refine r_aload_n hV rfl rfl (pc' := 1) rfl ?_
  refine tt_getI hV (tg := 0) (ci := 12) (kf := 4) rfl rfl (by decide) (hB _ _ rfl) rfl (by decide) (pc' := 4) rfl ?_
  refine tt_iconst hV rfl (pc' := 5) rfl ?_
  obtain ⟨g1, h⟩ := h
  refine tt_icmp_ne hV rfl g1 (by decide) (pt := 20) (by decide) (pf := 8) rfl (fun hc => ?_) (fun hc => ?_)
  · replace h := h.1 hc
    exact h
  · replace h := h.2 (Decidable.not_not.mp hc)
    refine r_aload_n hV rfl rfl (pc' := 9) rfl ?_
    obtain ⟨v9, m9, h, hr⟩ := h
    refine tt_cv0I hV rfl rfl rfl (Wd_obj (hB _ _ rfl)) (Nat.le_of_ble_eq_true rfl) (Nat.le_of_ble_eq_true rfl) rfl hr (pc' := 12) rfl ?_
    refine r_iload_n hV rfl rfl (pc' := 13) rfl ?_
    obtain ⟨g2, h⟩ := h
    obtain ⟨g3, h⟩ := h
    refine tt_icmp_eq hV rfl g2 g3 (pt := 20) (by decide) (pf := 16) rfl (fun hc => ?_) (fun hc => ?_)
    · replace h := h.1 hc
      exact h
    · replace h := h.2 hc
      refine r_aload_n hV rfl rfl (pc' := 17) rfl ?_
      obtain ⟨m17, h, hr⟩ := h
      refine tt_cv0U hV rfl rfl rfl (Wd_obj (hB _ _ rfl)) (Nat.le_of_ble_eq_true rfl) (Nat.le_of_ble_eq_true rfl) rfl hr (pc' := 20) rfl ?_
      exact h
theorem M_closes_20w {X : Cx} {d : Nat} {x : Int} {m : Mm} {Q : Mm → Prop} (hB : Bsh X.2.2.1) (h : Q (up (up m 83 3 (m 83 3 + 1)) 83 5 (m 83 5 - 1))) : M_closes_20 X (d + 1) x m Q := by
  unfold M_closes_20
  have hV : Clo (gP X.1 X.2.1) (d + 1) 177 2 false (Ru0 (gP X.1 X.2.1) (d + 1) 177 X.2.2.1 X.2.2.2 Q) := Ru0_clo (q := mI177) rfl
  refine r_aload_n hV rfl rfl (pc' := 21) rfl ?_
  refine r_dup hV rfl rfl (pc' := 22) rfl ?_
  refine tt_getI hV (tg := 0) (ci := 12) (kf := 3) rfl rfl (by decide) (hB _ _ rfl) rfl (by decide) (pc' := 25) rfl ?_
  refine tt_iconst hV rfl (pc' := 26) rfl ?_
  refine tt_iadd hV rfl (pc' := 27) rfl ?_
  refine tt_putI hV (tg := 0) (ci := 12) (kf := 3) rfl rfl (Or.inl rfl) (hB _ _ rfl) rfl (by decide) rfl (pc' := 30) rfl ?_
  refine r_aload_n hV rfl rfl (pc' := 31) rfl ?_
  refine r_dup hV rfl rfl (pc' := 32) rfl ?_
  refine tt_getI hV (tg := 0) (ci := 12) (kf := 5) rfl rfl (by decide) (hB _ _ rfl) rfl (by decide) (pc' := 35) rfl ?_
  refine vtI (y := m 83 5) (up_ne (Or.inr (by decide))) ?_
  refine tt_iconst hV rfl (pc' := 36) rfl ?_
  refine tt_isub hV rfl (pc' := 37) rfl ?_
  refine tt_putI hV (tg := 0) (ci := 12) (kf := 5) rfl rfl (Or.inl rfl) (hB _ _ rfl) rfl (by decide) rfl (pc' := 40) rfl ?_
  exact ru0_ret (q := mI177) rfl rfl rfl h
theorem M_plainNumberw {X : Cx} {d : Nat} {m : Mm} {Q : Int → Mm → Prop} (hB : Bsh X.2.2.1) (h : M_plainNumber_4 X (d + 1) 0 0 m Q) : M_plainNumber X (d + 1) m Q := by
  unfold M_plainNumber
  have hV : Clo (gP X.1 X.2.1) (d + 1) 178 3 false (Rq (gP X.1 X.2.1) (d + 1) 178 X.2.2.1 X.2.2.2 Q) := Rq_clo (q := mI178) rfl
  refine tt_iconst hV rfl (pc' := 1) rfl ?_
  refine tt_istore1 hV rfl rfl (pc' := 2) rfl ?_
  refine tt_iconst hV rfl (pc' := 3) rfl ?_
  refine tt_istore2 hV rfl rfl (pc' := 4) rfl ?_
  exact h
theorem M_plainNumber_4w {X : Cx} {d : Nat} {l1 : Int} {l2 : Int} {m : Mm} {Q : Int → Mm → Prop} (hB : Bsh X.2.2.1) (h : (-2147483648 ≤ l2 ∧ l2 < 2147483648) ∧ (4 ≤ l2 → M_here X d m (fun v49 m49 => M_isDigit X d v49 m49 (fun v52 m52 => (-2147483648 ≤ v52 ∧ v52 < 2147483648) ∧ (v52 = 0 → Q l1 m52) ∧ (v52 ≠ 0 → M_bad X d m52 (fun m59 => Q l1 m59))))) ∧ (l2 < 4 → M_here X d m (fun v10 m10 => M_isDigit X d v10 m10 (fun v13 m13 => (-2147483648 ≤ v13 ∧ v13 < 2147483648) ∧ (v13 = 0 → M_here X d m13 (fun v49 m49 => M_isDigit X d v49 m49 (fun v52 m52 => (-2147483648 ≤ v52 ∧ v52 < 2147483648) ∧ (v52 = 0 → Q l1 m52) ∧ (v52 ≠ 0 → M_bad X d m52 (fun m59 => Q l1 m59))))) ∧ (v13 ≠ 0 → M_here X d m13 (fun v24 m24 => M_plainNumber_4 X (d + 1) (10 * l1 + v24 - 48) (l2 + 1) (up m24 83 3 (m24 83 3 + 1)) Q)))))) : M_plainNumber_4 X (d + 1) l1 l2 m Q := by
  unfold M_plainNumber_4
  have hV : Clo (gP X.1 X.2.1) (d + 1) 178 3 false (Rq (gP X.1 X.2.1) (d + 1) 178 X.2.2.1 X.2.2.2 Q) := Rq_clo (q := mI178) rfl
  refine r_iload_n hV rfl rfl (pc' := 5) rfl ?_
  refine tt_iconst hV rfl (pc' := 6) rfl ?_
  obtain ⟨g1, h⟩ := h
  refine tt_icmp_ge hV rfl g1 (by decide) (pt := 48) (by decide) (pf := 9) rfl (fun hc => ?_) (fun hc => ?_)
  · replace h := h.1 hc
    refine r_aload_n hV rfl rfl (pc' := 49) rfl ?_
    obtain ⟨v49, m49, h, hr⟩ := h
    refine tt_cv0I hV rfl rfl rfl (Wd_obj (hB _ _ rfl)) (Nat.le_of_ble_eq_true rfl) (Nat.le_of_ble_eq_true rfl) rfl hr (pc' := 52) rfl ?_
    obtain ⟨v52, m52, h, hr⟩ := h
    refine tt_cs1I hV rfl rfl rfl (Nat.le_of_ble_eq_true rfl) (Nat.le_of_ble_eq_true rfl) rfl hr (pc' := 55) rfl ?_
    obtain ⟨g2, h⟩ := h
    refine tt_if_eq hV rfl g2 (pt := 62) (by decide) (pf := 58) rfl (fun hc => ?_) (fun hc => ?_)
    · replace h := h.1 hc
      refine r_iload_n hV rfl rfl (pc' := 63) rfl ?_
      exact rq_ret (q := mI178) rfl rfl rfl h
    · replace h := h.2 hc
      refine r_aload_n hV rfl rfl (pc' := 59) rfl ?_
      obtain ⟨m59, h, hr⟩ := h
      refine tt_cv0U hV rfl rfl rfl (Wd_obj (hB _ _ rfl)) (Nat.le_of_ble_eq_true rfl) (Nat.le_of_ble_eq_true rfl) rfl hr (pc' := 62) rfl ?_
      refine r_iload_n hV rfl rfl (pc' := 63) rfl ?_
      exact rq_ret (q := mI178) rfl rfl rfl h
  · replace h := h.2 (Int.not_le.mp hc)
    refine r_aload_n hV rfl rfl (pc' := 10) rfl ?_
    obtain ⟨v10, m10, h, hr⟩ := h
    refine tt_cv0I hV rfl rfl rfl (Wd_obj (hB _ _ rfl)) (Nat.le_of_ble_eq_true rfl) (Nat.le_of_ble_eq_true rfl) rfl hr (pc' := 13) rfl ?_
    obtain ⟨v13, m13, h, hr⟩ := h
    refine tt_cs1I hV rfl rfl rfl (Nat.le_of_ble_eq_true rfl) (Nat.le_of_ble_eq_true rfl) rfl hr (pc' := 16) rfl ?_
    obtain ⟨g3, h⟩ := h
    refine tt_if_eq hV rfl g3 (pt := 48) (by decide) (pf := 19) rfl (fun hc => ?_) (fun hc => ?_)
    · replace h := h.1 hc
      refine r_aload_n hV rfl rfl (pc' := 49) rfl ?_
      obtain ⟨v49, m49, h, hr⟩ := h
      refine tt_cv0I hV rfl rfl rfl (Wd_obj (hB _ _ rfl)) (Nat.le_of_ble_eq_true rfl) (Nat.le_of_ble_eq_true rfl) rfl hr (pc' := 52) rfl ?_
      obtain ⟨v52, m52, h, hr⟩ := h
      refine tt_cs1I hV rfl rfl rfl (Nat.le_of_ble_eq_true rfl) (Nat.le_of_ble_eq_true rfl) rfl hr (pc' := 55) rfl ?_
      obtain ⟨g4, h⟩ := h
      refine tt_if_eq hV rfl g4 (pt := 62) (by decide) (pf := 58) rfl (fun hc => ?_) (fun hc => ?_)
      · replace h := h.1 hc
        refine r_iload_n hV rfl rfl (pc' := 63) rfl ?_
        exact rq_ret (q := mI178) rfl rfl rfl h
      · replace h := h.2 hc
        refine r_aload_n hV rfl rfl (pc' := 59) rfl ?_
        obtain ⟨m59, h, hr⟩ := h
        refine tt_cv0U hV rfl rfl rfl (Wd_obj (hB _ _ rfl)) (Nat.le_of_ble_eq_true rfl) (Nat.le_of_ble_eq_true rfl) rfl hr (pc' := 62) rfl ?_
        refine r_iload_n hV rfl rfl (pc' := 63) rfl ?_
        exact rq_ret (q := mI178) rfl rfl rfl h
    · replace h := h.2 hc
      refine tt_bipush hV rfl (by decide) (pc' := 21) rfl ?_
      refine r_iload_n hV rfl rfl (pc' := 22) rfl ?_
      refine tt_imul hV rfl (pc' := 23) rfl ?_
      refine r_aload_n hV rfl rfl (pc' := 24) rfl ?_
      obtain ⟨v24, m24, h, hr⟩ := h
      refine tt_cv0I hV rfl rfl rfl (Wd_obj (hB _ _ rfl)) (Nat.le_of_ble_eq_true rfl) (Nat.le_of_ble_eq_true rfl) rfl hr (pc' := 27) rfl ?_
      refine tt_iadd hV rfl (pc' := 28) rfl ?_
      refine tt_bipush hV rfl (by decide) (pc' := 30) rfl ?_
      refine tt_isub hV rfl (pc' := 31) rfl ?_
      refine tt_istore1 hV rfl rfl (pc' := 32) rfl ?_
      refine r_aload_n hV rfl rfl (pc' := 33) rfl ?_
      refine r_dup hV rfl rfl (pc' := 34) rfl ?_
      refine tt_getI hV (tg := 0) (ci := 12) (kf := 3) rfl rfl (by decide) (hB _ _ rfl) rfl (by decide) (pc' := 37) rfl ?_
      refine tt_iconst hV rfl (pc' := 38) rfl ?_
      refine tt_iadd hV rfl (pc' := 39) rfl ?_
      refine tt_putI hV (tg := 0) (ci := 12) (kf := 3) rfl rfl (Or.inl rfl) (hB _ _ rfl) rfl (by decide) rfl (pc' := 42) rfl ?_
      refine tt_iinc2 hV rfl rfl (pc' := 45) rfl ?_
      refine r_goto hV rfl (pc' := 4) (by decide) ?_
      exact h
theorem M_atomw {X : Cx} {d : Nat} {m : Mm} {Q : Mm → Prop} (hB : Bsh X.2.2.1) (h : M_look X d m (fun v1 m1 => M_isDigit X d v1 m1 (fun v6 m6 => (-2147483648 ≤ v6 ∧ v6 < 2147483648) ∧ (v6 = 0 → M_letterOf X d v1 m6 (fun v25 m25 => (-2147483648 ≤ v25 ∧ v25 < 2147483648) ∧ (v25 = -1 → (-2147483648 ≤ v1 ∧ v1 < 2147483648) ∧ (v1 ≠ 91 → M_bad X d m25 (fun m86 => Q m86)) ∧ (v1 = 91 → M_opens X d m25 (fun m61 => (-2147483648 ≤ (m61 83 4) ∧ (m61 83 4) < 2147483648) ∧ (m61 83 4 ≠ -1 → Q m61) ∧ (m61 83 4 = -1 → M_sumText X d m61 (fun m73 => M_closes X d 93 m73 (fun m79 => Q m79)))))) ∧ (v25 ≠ -1 → M_letterOf X d v1 (up m25 83 3 (m25 83 3 + 1)) (fun v45 m45 => M_put X d 1 v45 m45 (fun m48 => Q m48))))) ∧ (v6 ≠ 0 → M_plainNumber X d m6 (fun v15 m15 => M_put X d 0 v15 m15 (fun m18 => Q m18)))))) : M_atom X (d + 1) m Q := by
  unfold M_atom
  have hV : Clo (gP X.1 X.2.1) (d + 1) 179 2 false (Ru0 (gP X.1 X.2.1) (d + 1) 179 X.2.2.1 X.2.2.2 Q) := Ru0_clo (q := mI179) rfl
  refine r_aload_n hV rfl rfl (pc' := 1) rfl ?_
  obtain ⟨v1, m1, h, hr⟩ := h
  refine tt_cv0I hV rfl rfl rfl (Wd_obj (hB _ _ rfl)) (Nat.le_of_ble_eq_true rfl) (Nat.le_of_ble_eq_true rfl) rfl hr (pc' := 4) rfl ?_
  refine tt_istore1 hV rfl rfl (pc' := 5) rfl ?_
  refine r_iload_n hV rfl rfl (pc' := 6) rfl ?_
  obtain ⟨v6, m6, h, hr⟩ := h
  refine tt_cs1I hV rfl rfl rfl (Nat.le_of_ble_eq_true rfl) (Nat.le_of_ble_eq_true rfl) rfl hr (pc' := 9) rfl ?_
  obtain ⟨g1, h⟩ := h
  refine tt_if_eq hV rfl g1 (pt := 24) (by decide) (pf := 12) rfl (fun hc => ?_) (fun hc => ?_)
  · replace h := h.1 hc
    refine r_iload_n hV rfl rfl (pc' := 25) rfl ?_
    obtain ⟨v25, m25, h, hr⟩ := h
    refine tt_cs1I hV rfl rfl rfl (Nat.le_of_ble_eq_true rfl) (Nat.le_of_ble_eq_true rfl) rfl hr (pc' := 28) rfl ?_
    refine tt_iconst hV rfl (pc' := 29) rfl ?_
    obtain ⟨g2, h⟩ := h
    refine tt_icmp_eq hV rfl g2 (by decide) (pt := 54) (by decide) (pf := 32) rfl (fun hc => ?_) (fun hc => ?_)
    · replace h := h.1 hc
      refine r_iload_n hV rfl rfl (pc' := 55) rfl ?_
      refine tt_bipush hV rfl (by decide) (pc' := 57) rfl ?_
      obtain ⟨g3, h⟩ := h
      refine tt_icmp_ne hV rfl g3 (by decide) (pt := 85) (by decide) (pf := 60) rfl (fun hc => ?_) (fun hc => ?_)
      · replace h := h.1 hc
        refine r_aload_n hV rfl rfl (pc' := 86) rfl ?_
        obtain ⟨m86, h, hr⟩ := h
        refine tt_cv0U hV rfl rfl rfl (Wd_obj (hB _ _ rfl)) (Nat.le_of_ble_eq_true rfl) (Nat.le_of_ble_eq_true rfl) rfl hr (pc' := 89) rfl ?_
        exact ru0_ret (q := mI179) rfl rfl rfl h
      · replace h := h.2 (Decidable.not_not.mp hc)
        refine r_aload_n hV rfl rfl (pc' := 61) rfl ?_
        obtain ⟨m61, h, hr⟩ := h
        refine tt_cv0U hV rfl rfl rfl (Wd_obj (hB _ _ rfl)) (Nat.le_of_ble_eq_true rfl) (Nat.le_of_ble_eq_true rfl) rfl hr (pc' := 64) rfl ?_
        refine r_aload_n hV rfl rfl (pc' := 65) rfl ?_
        refine tt_getI hV (tg := 0) (ci := 12) (kf := 4) rfl rfl (by decide) (hB _ _ rfl) rfl (by decide) (pc' := 68) rfl ?_
        refine tt_iconst hV rfl (pc' := 69) rfl ?_
        obtain ⟨g4, h⟩ := h
        refine tt_icmp_ne hV rfl g4 (by decide) (pt := 89) (by decide) (pf := 72) rfl (fun hc => ?_) (fun hc => ?_)
        · replace h := h.1 hc
          exact ru0_ret (q := mI179) rfl rfl rfl h
        · replace h := h.2 (Decidable.not_not.mp hc)
          refine r_aload_n hV rfl rfl (pc' := 73) rfl ?_
          obtain ⟨m73, h, hr⟩ := h
          refine tt_cv0U hV rfl rfl rfl (Wd_obj (hB _ _ rfl)) (Nat.le_of_ble_eq_true rfl) (Nat.le_of_ble_eq_true rfl) rfl hr (pc' := 76) rfl ?_
          refine r_aload_n hV rfl rfl (pc' := 77) rfl ?_
          refine tt_bipush hV rfl (by decide) (pc' := 79) rfl ?_
          obtain ⟨m79, h, hr⟩ := h
          refine tt_cv1U hV rfl rfl rfl (Wd_obj (hB _ _ rfl)) (Nat.le_of_ble_eq_true rfl) (Nat.le_of_ble_eq_true rfl) rfl hr (pc' := 82) rfl ?_
          refine r_goto hV rfl (pc' := 89) (by decide) ?_
          exact ru0_ret (q := mI179) rfl rfl rfl h
    · replace h := h.2 hc
      refine r_aload_n hV rfl rfl (pc' := 33) rfl ?_
      refine r_dup hV rfl rfl (pc' := 34) rfl ?_
      refine tt_getI hV (tg := 0) (ci := 12) (kf := 3) rfl rfl (by decide) (hB _ _ rfl) rfl (by decide) (pc' := 37) rfl ?_
      refine tt_iconst hV rfl (pc' := 38) rfl ?_
      refine tt_iadd hV rfl (pc' := 39) rfl ?_
      refine tt_putI hV (tg := 0) (ci := 12) (kf := 3) rfl rfl (Or.inl rfl) (hB _ _ rfl) rfl (by decide) rfl (pc' := 42) rfl ?_
      refine r_aload_n hV rfl rfl (pc' := 43) rfl ?_
      refine tt_iconst hV rfl (pc' := 44) rfl ?_
      refine r_iload_n hV rfl rfl (pc' := 45) rfl ?_
      obtain ⟨v45, m45, h, hr⟩ := h
      refine tt_cs1I hV rfl rfl rfl (Nat.le_of_ble_eq_true rfl) (Nat.le_of_ble_eq_true rfl) rfl hr (pc' := 48) rfl ?_
      obtain ⟨m48, h, hr⟩ := h
      refine tt_cv2U hV rfl rfl rfl (Wd_obj (hB _ _ rfl)) (Nat.le_of_ble_eq_true rfl) (Nat.le_of_ble_eq_true rfl) rfl hr (pc' := 51) rfl ?_
      refine r_goto hV rfl (pc' := 89) (by decide) ?_
      exact ru0_ret (q := mI179) rfl rfl rfl h
  · replace h := h.2 hc
    refine r_aload_n hV rfl rfl (pc' := 13) rfl ?_
    refine tt_iconst hV rfl (pc' := 14) rfl ?_
    refine r_aload_n hV rfl rfl (pc' := 15) rfl ?_
    obtain ⟨v15, m15, h, hr⟩ := h
    refine tt_cv0I hV rfl rfl rfl (Wd_obj (hB _ _ rfl)) (Nat.le_of_ble_eq_true rfl) (Nat.le_of_ble_eq_true rfl) rfl hr (pc' := 18) rfl ?_
    obtain ⟨m18, h, hr⟩ := h
    refine tt_cv2U hV rfl rfl rfl (Wd_obj (hB _ _ rfl)) (Nat.le_of_ble_eq_true rfl) (Nat.le_of_ble_eq_true rfl) rfl hr (pc' := 21) rfl ?_
    refine r_goto hV rfl (pc' := 89) (by decide) ?_
    exact ru0_ret (q := mI179) rfl rfl rfl h
theorem M_termw {X : Cx} {d : Nat} {m : Mm} {Q : Mm → Prop} (hB : Bsh X.2.2.1) (h : M_atom X d m (fun m1 => (-2147483648 ≤ (m1 83 4) ∧ (m1 83 4) < 2147483648) ∧ (m1 83 4 ≠ -1 → M_term_21 X (d + 1) (-1) m1 Q) ∧ (m1 83 4 = -1 → M_look X d m1 (fun v13 m13 => M_term_21 X (d + 1) v13 m13 Q)))) : M_term X (d + 1) m Q := by
  unfold M_term
  have hV : Clo (gP X.1 X.2.1) (d + 1) 180 2 false (Ru0 (gP X.1 X.2.1) (d + 1) 180 X.2.2.1 X.2.2.2 Q) := Ru0_clo (q := mI180) rfl
  refine r_aload_n hV rfl rfl (pc' := 1) rfl ?_
  obtain ⟨m1, h, hr⟩ := h
  refine tt_cv0U hV rfl rfl rfl (Wd_obj (hB _ _ rfl)) (Nat.le_of_ble_eq_true rfl) (Nat.le_of_ble_eq_true rfl) rfl hr (pc' := 4) rfl ?_
  refine r_aload_n hV rfl rfl (pc' := 5) rfl ?_
  refine tt_getI hV (tg := 0) (ci := 12) (kf := 4) rfl rfl (by decide) (hB _ _ rfl) rfl (by decide) (pc' := 8) rfl ?_
  refine tt_iconst hV rfl (pc' := 9) rfl ?_
  obtain ⟨g1, h⟩ := h
  refine tt_icmp_ne hV rfl g1 (by decide) (pt := 19) (by decide) (pf := 12) rfl (fun hc => ?_) (fun hc => ?_)
  · replace h := h.1 hc
    refine tt_iconst hV rfl (pc' := 20) rfl ?_
    refine tt_istore1 hV rfl rfl (pc' := 21) rfl ?_
    exact h
  · replace h := h.2 (Decidable.not_not.mp hc)
    refine r_aload_n hV rfl rfl (pc' := 13) rfl ?_
    obtain ⟨v13, m13, h, hr⟩ := h
    refine tt_cv0I hV rfl rfl rfl (Wd_obj (hB _ _ rfl)) (Nat.le_of_ble_eq_true rfl) (Nat.le_of_ble_eq_true rfl) rfl hr (pc' := 16) rfl ?_
    refine r_goto hV rfl (pc' := 20) (by decide) ?_
    refine tt_istore1 hV rfl rfl (pc' := 21) rfl ?_
    exact h
theorem M_term_21w {X : Cx} {d : Nat} {l1 : Int} {m : Mm} {Q : Mm → Prop} (hB : Bsh X.2.2.1) (h : (-2147483648 ≤ l1 ∧ l1 < 2147483648) ∧ (l1 = 42 → M_term_33 X (d + 1) l1 m Q) ∧ (l1 ≠ 42 → (l1 ≠ 47 → Q m) ∧ (l1 = 47 → M_term_33 X (d + 1) l1 m Q))) : M_term_21 X (d + 1) l1 m Q := by
  unfold M_term_21
  have hV : Clo (gP X.1 X.2.1) (d + 1) 180 2 false (Ru0 (gP X.1 X.2.1) (d + 1) 180 X.2.2.1 X.2.2.2 Q) := Ru0_clo (q := mI180) rfl
  refine r_iload_n hV rfl rfl (pc' := 22) rfl ?_
  refine tt_bipush hV rfl (by decide) (pc' := 24) rfl ?_
  obtain ⟨g2, h⟩ := h
  refine tt_icmp_eq hV rfl g2 (by decide) (pt := 33) (by decide) (pf := 27) rfl (fun hc => ?_) (fun hc => ?_)
  · replace h := h.1 hc
    exact h
  · replace h := h.2 hc
    refine r_iload_n hV rfl rfl (pc' := 28) rfl ?_
    refine tt_bipush hV rfl (by decide) (pc' := 30) rfl ?_
    refine tt_icmp_ne hV rfl g2 (by decide) (pt := 83) (by decide) (pf := 33) rfl (fun hc => ?_) (fun hc => ?_)
    · replace h := h.1 hc
      exact ru0_ret (q := mI180) rfl rfl rfl h
    · replace h := h.2 (Decidable.not_not.mp hc)
      exact h
theorem M_term_33w {X : Cx} {d : Nat} {l1 : Int} {m : Mm} {Q : Mm → Prop} (hB : Bsh X.2.2.1) (h : M_atom X d (up m 83 3 (m 83 3 + 1)) (fun m44 => (-2147483648 ≤ l1 ∧ l1 < 2147483648) ∧ (l1 ≠ 42 → M_put X d 5 0 m44 (fun m60 => (-2147483648 ≤ (m60 83 4) ∧ (m60 83 4) < 2147483648) ∧ (m60 83 4 ≠ -1 → M_term_21 X (d + 1) (-1) m60 Q) ∧ (m60 83 4 = -1 → M_look X d m60 (fun v72 m72 => M_term_21 X (d + 1) v72 m72 Q)))) ∧ (l1 = 42 → M_put X d 4 0 m44 (fun m60 => (-2147483648 ≤ (m60 83 4) ∧ (m60 83 4) < 2147483648) ∧ (m60 83 4 ≠ -1 → M_term_21 X (d + 1) (-1) m60 Q) ∧ (m60 83 4 = -1 → M_look X d m60 (fun v72 m72 => M_term_21 X (d + 1) v72 m72 Q)))))) : M_term_33 X (d + 1) l1 m Q := by
  unfold M_term_33
  have hV : Clo (gP X.1 X.2.1) (d + 1) 180 2 false (Ru0 (gP X.1 X.2.1) (d + 1) 180 X.2.2.1 X.2.2.2 Q) := Ru0_clo (q := mI180) rfl
  refine r_aload_n hV rfl rfl (pc' := 34) rfl ?_
  refine r_dup hV rfl rfl (pc' := 35) rfl ?_
  refine tt_getI hV (tg := 0) (ci := 12) (kf := 3) rfl rfl (by decide) (hB _ _ rfl) rfl (by decide) (pc' := 38) rfl ?_
  refine tt_iconst hV rfl (pc' := 39) rfl ?_
  refine tt_iadd hV rfl (pc' := 40) rfl ?_
  refine tt_putI hV (tg := 0) (ci := 12) (kf := 3) rfl rfl (Or.inl rfl) (hB _ _ rfl) rfl (by decide) rfl (pc' := 43) rfl ?_
  refine r_aload_n hV rfl rfl (pc' := 44) rfl ?_
  obtain ⟨m44, h, hr⟩ := h
  refine tt_cv0U hV rfl rfl rfl (Wd_obj (hB _ _ rfl)) (Nat.le_of_ble_eq_true rfl) (Nat.le_of_ble_eq_true rfl) rfl hr (pc' := 47) rfl ?_
  refine r_aload_n hV rfl rfl (pc' := 48) rfl ?_
  refine r_iload_n hV rfl rfl (pc' := 49) rfl ?_
  refine tt_bipush hV rfl (by decide) (pc' := 51) rfl ?_
  obtain ⟨g3, h⟩ := h
  refine tt_icmp_ne hV rfl g3 (by decide) (pt := 58) (by decide) (pf := 54) rfl (fun hc => ?_) (fun hc => ?_)
  · replace h := h.1 hc
    refine tt_iconst hV rfl (pc' := 59) rfl ?_
    refine tt_iconst hV rfl (pc' := 60) rfl ?_
    obtain ⟨m60, h, hr⟩ := h
    refine tt_cv2U hV rfl rfl rfl (Wd_obj (hB _ _ rfl)) (Nat.le_of_ble_eq_true rfl) (Nat.le_of_ble_eq_true rfl) rfl hr (pc' := 63) rfl ?_
    refine r_aload_n hV rfl rfl (pc' := 64) rfl ?_
    refine tt_getI hV (tg := 0) (ci := 12) (kf := 4) rfl rfl (by decide) (hB _ _ rfl) rfl (by decide) (pc' := 67) rfl ?_
    refine tt_iconst hV rfl (pc' := 68) rfl ?_
    obtain ⟨g4, h⟩ := h
    refine tt_icmp_ne hV rfl g4 (by decide) (pt := 78) (by decide) (pf := 71) rfl (fun hc => ?_) (fun hc => ?_)
    · replace h := h.1 hc
      refine tt_iconst hV rfl (pc' := 79) rfl ?_
      refine tt_istore1 hV rfl rfl (pc' := 80) rfl ?_
      refine r_goto hV rfl (pc' := 21) (by decide) ?_
      exact h
    · replace h := h.2 (Decidable.not_not.mp hc)
      refine r_aload_n hV rfl rfl (pc' := 72) rfl ?_
      obtain ⟨v72, m72, h, hr⟩ := h
      refine tt_cv0I hV rfl rfl rfl (Wd_obj (hB _ _ rfl)) (Nat.le_of_ble_eq_true rfl) (Nat.le_of_ble_eq_true rfl) rfl hr (pc' := 75) rfl ?_
      refine r_goto hV rfl (pc' := 79) (by decide) ?_
      refine tt_istore1 hV rfl rfl (pc' := 80) rfl ?_
      refine r_goto hV rfl (pc' := 21) (by decide) ?_
      exact h
  · replace h := h.2 (Decidable.not_not.mp hc)
    refine tt_iconst hV rfl (pc' := 55) rfl ?_
    refine r_goto hV rfl (pc' := 59) (by decide) ?_
    refine tt_iconst hV rfl (pc' := 60) rfl ?_
    obtain ⟨m60, h, hr⟩ := h
    refine tt_cv2U hV rfl rfl rfl (Wd_obj (hB _ _ rfl)) (Nat.le_of_ble_eq_true rfl) (Nat.le_of_ble_eq_true rfl) rfl hr (pc' := 63) rfl ?_
    refine r_aload_n hV rfl rfl (pc' := 64) rfl ?_
    refine tt_getI hV (tg := 0) (ci := 12) (kf := 4) rfl rfl (by decide) (hB _ _ rfl) rfl (by decide) (pc' := 67) rfl ?_
    refine tt_iconst hV rfl (pc' := 68) rfl ?_
    obtain ⟨g5, h⟩ := h
    refine tt_icmp_ne hV rfl g5 (by decide) (pt := 78) (by decide) (pf := 71) rfl (fun hc => ?_) (fun hc => ?_)
    · replace h := h.1 hc
      refine tt_iconst hV rfl (pc' := 79) rfl ?_
      refine tt_istore1 hV rfl rfl (pc' := 80) rfl ?_
      refine r_goto hV rfl (pc' := 21) (by decide) ?_
      exact h
    · replace h := h.2 (Decidable.not_not.mp hc)
      refine r_aload_n hV rfl rfl (pc' := 72) rfl ?_
      obtain ⟨v72, m72, h, hr⟩ := h
      refine tt_cv0I hV rfl rfl rfl (Wd_obj (hB _ _ rfl)) (Nat.le_of_ble_eq_true rfl) (Nat.le_of_ble_eq_true rfl) rfl hr (pc' := 75) rfl ?_
      refine r_goto hV rfl (pc' := 79) (by decide) ?_
      refine tt_istore1 hV rfl rfl (pc' := 80) rfl ?_
      refine r_goto hV rfl (pc' := 21) (by decide) ?_
      exact h
theorem M_sumTextw {X : Cx} {d : Nat} {m : Mm} {Q : Mm → Prop} (hB : Bsh X.2.2.1) (h : M_term X d m (fun m1 => (-2147483648 ≤ (m1 83 4) ∧ (m1 83 4) < 2147483648) ∧ (m1 83 4 ≠ -1 → M_sumText_21 X (d + 1) (-1) m1 Q) ∧ (m1 83 4 = -1 → M_look X d m1 (fun v13 m13 => M_sumText_21 X (d + 1) v13 m13 Q)))) : M_sumText X (d + 1) m Q := by
  unfold M_sumText
  have hV : Clo (gP X.1 X.2.1) (d + 1) 181 2 false (Ru0 (gP X.1 X.2.1) (d + 1) 181 X.2.2.1 X.2.2.2 Q) := Ru0_clo (q := mI181) rfl
  refine r_aload_n hV rfl rfl (pc' := 1) rfl ?_
  obtain ⟨m1, h, hr⟩ := h
  refine tt_cv0U hV rfl rfl rfl (Wd_obj (hB _ _ rfl)) (Nat.le_of_ble_eq_true rfl) (Nat.le_of_ble_eq_true rfl) rfl hr (pc' := 4) rfl ?_
  refine r_aload_n hV rfl rfl (pc' := 5) rfl ?_
  refine tt_getI hV (tg := 0) (ci := 12) (kf := 4) rfl rfl (by decide) (hB _ _ rfl) rfl (by decide) (pc' := 8) rfl ?_
  refine tt_iconst hV rfl (pc' := 9) rfl ?_
  obtain ⟨g1, h⟩ := h
  refine tt_icmp_ne hV rfl g1 (by decide) (pt := 19) (by decide) (pf := 12) rfl (fun hc => ?_) (fun hc => ?_)
  · replace h := h.1 hc
    refine tt_iconst hV rfl (pc' := 20) rfl ?_
    refine tt_istore1 hV rfl rfl (pc' := 21) rfl ?_
    exact h
  · replace h := h.2 (Decidable.not_not.mp hc)
    refine r_aload_n hV rfl rfl (pc' := 13) rfl ?_
    obtain ⟨v13, m13, h, hr⟩ := h
    refine tt_cv0I hV rfl rfl rfl (Wd_obj (hB _ _ rfl)) (Nat.le_of_ble_eq_true rfl) (Nat.le_of_ble_eq_true rfl) rfl hr (pc' := 16) rfl ?_
    refine r_goto hV rfl (pc' := 20) (by decide) ?_
    refine tt_istore1 hV rfl rfl (pc' := 21) rfl ?_
    exact h
theorem M_sumText_21w {X : Cx} {d : Nat} {l1 : Int} {m : Mm} {Q : Mm → Prop} (hB : Bsh X.2.2.1) (h : (-2147483648 ≤ l1 ∧ l1 < 2147483648) ∧ (l1 = 43 → M_sumText_33 X (d + 1) l1 m Q) ∧ (l1 ≠ 43 → (l1 ≠ 45 → Q m) ∧ (l1 = 45 → M_sumText_33 X (d + 1) l1 m Q))) : M_sumText_21 X (d + 1) l1 m Q := by
  unfold M_sumText_21
  have hV : Clo (gP X.1 X.2.1) (d + 1) 181 2 false (Ru0 (gP X.1 X.2.1) (d + 1) 181 X.2.2.1 X.2.2.2 Q) := Ru0_clo (q := mI181) rfl
  refine r_iload_n hV rfl rfl (pc' := 22) rfl ?_
  refine tt_bipush hV rfl (by decide) (pc' := 24) rfl ?_
  obtain ⟨g2, h⟩ := h
  refine tt_icmp_eq hV rfl g2 (by decide) (pt := 33) (by decide) (pf := 27) rfl (fun hc => ?_) (fun hc => ?_)
  · replace h := h.1 hc
    exact h
  · replace h := h.2 hc
    refine r_iload_n hV rfl rfl (pc' := 28) rfl ?_
    refine tt_bipush hV rfl (by decide) (pc' := 30) rfl ?_
    refine tt_icmp_ne hV rfl g2 (by decide) (pt := 83) (by decide) (pf := 33) rfl (fun hc => ?_) (fun hc => ?_)
    · replace h := h.1 hc
      exact ru0_ret (q := mI181) rfl rfl rfl h
    · replace h := h.2 (Decidable.not_not.mp hc)
      exact h
theorem M_sumText_33w {X : Cx} {d : Nat} {l1 : Int} {m : Mm} {Q : Mm → Prop} (hB : Bsh X.2.2.1) (h : M_term X d (up m 83 3 (m 83 3 + 1)) (fun m44 => (-2147483648 ≤ l1 ∧ l1 < 2147483648) ∧ (l1 ≠ 43 → M_put X d 3 0 m44 (fun m60 => (-2147483648 ≤ (m60 83 4) ∧ (m60 83 4) < 2147483648) ∧ (m60 83 4 ≠ -1 → M_sumText_21 X (d + 1) (-1) m60 Q) ∧ (m60 83 4 = -1 → M_look X d m60 (fun v72 m72 => M_sumText_21 X (d + 1) v72 m72 Q)))) ∧ (l1 = 43 → M_put X d 2 0 m44 (fun m60 => (-2147483648 ≤ (m60 83 4) ∧ (m60 83 4) < 2147483648) ∧ (m60 83 4 ≠ -1 → M_sumText_21 X (d + 1) (-1) m60 Q) ∧ (m60 83 4 = -1 → M_look X d m60 (fun v72 m72 => M_sumText_21 X (d + 1) v72 m72 Q)))))) : M_sumText_33 X (d + 1) l1 m Q := by
  unfold M_sumText_33
  have hV : Clo (gP X.1 X.2.1) (d + 1) 181 2 false (Ru0 (gP X.1 X.2.1) (d + 1) 181 X.2.2.1 X.2.2.2 Q) := Ru0_clo (q := mI181) rfl
  refine r_aload_n hV rfl rfl (pc' := 34) rfl ?_
  refine r_dup hV rfl rfl (pc' := 35) rfl ?_
  refine tt_getI hV (tg := 0) (ci := 12) (kf := 3) rfl rfl (by decide) (hB _ _ rfl) rfl (by decide) (pc' := 38) rfl ?_
  refine tt_iconst hV rfl (pc' := 39) rfl ?_
  refine tt_iadd hV rfl (pc' := 40) rfl ?_
  refine tt_putI hV (tg := 0) (ci := 12) (kf := 3) rfl rfl (Or.inl rfl) (hB _ _ rfl) rfl (by decide) rfl (pc' := 43) rfl ?_
  refine r_aload_n hV rfl rfl (pc' := 44) rfl ?_
  obtain ⟨m44, h, hr⟩ := h
  refine tt_cv0U hV rfl rfl rfl (Wd_obj (hB _ _ rfl)) (Nat.le_of_ble_eq_true rfl) (Nat.le_of_ble_eq_true rfl) rfl hr (pc' := 47) rfl ?_
  refine r_aload_n hV rfl rfl (pc' := 48) rfl ?_
  refine r_iload_n hV rfl rfl (pc' := 49) rfl ?_
  refine tt_bipush hV rfl (by decide) (pc' := 51) rfl ?_
  obtain ⟨g3, h⟩ := h
  refine tt_icmp_ne hV rfl g3 (by decide) (pt := 58) (by decide) (pf := 54) rfl (fun hc => ?_) (fun hc => ?_)
  · replace h := h.1 hc
    refine tt_iconst hV rfl (pc' := 59) rfl ?_
    refine tt_iconst hV rfl (pc' := 60) rfl ?_
    obtain ⟨m60, h, hr⟩ := h
    refine tt_cv2U hV rfl rfl rfl (Wd_obj (hB _ _ rfl)) (Nat.le_of_ble_eq_true rfl) (Nat.le_of_ble_eq_true rfl) rfl hr (pc' := 63) rfl ?_
    refine r_aload_n hV rfl rfl (pc' := 64) rfl ?_
    refine tt_getI hV (tg := 0) (ci := 12) (kf := 4) rfl rfl (by decide) (hB _ _ rfl) rfl (by decide) (pc' := 67) rfl ?_
    refine tt_iconst hV rfl (pc' := 68) rfl ?_
    obtain ⟨g4, h⟩ := h
    refine tt_icmp_ne hV rfl g4 (by decide) (pt := 78) (by decide) (pf := 71) rfl (fun hc => ?_) (fun hc => ?_)
    · replace h := h.1 hc
      refine tt_iconst hV rfl (pc' := 79) rfl ?_
      refine tt_istore1 hV rfl rfl (pc' := 80) rfl ?_
      refine r_goto hV rfl (pc' := 21) (by decide) ?_
      exact h
    · replace h := h.2 (Decidable.not_not.mp hc)
      refine r_aload_n hV rfl rfl (pc' := 72) rfl ?_
      obtain ⟨v72, m72, h, hr⟩ := h
      refine tt_cv0I hV rfl rfl rfl (Wd_obj (hB _ _ rfl)) (Nat.le_of_ble_eq_true rfl) (Nat.le_of_ble_eq_true rfl) rfl hr (pc' := 75) rfl ?_
      refine r_goto hV rfl (pc' := 79) (by decide) ?_
      refine tt_istore1 hV rfl rfl (pc' := 80) rfl ?_
      refine r_goto hV rfl (pc' := 21) (by decide) ?_
      exact h
  · replace h := h.2 (Decidable.not_not.mp hc)
    refine tt_iconst hV rfl (pc' := 55) rfl ?_
    refine r_goto hV rfl (pc' := 59) (by decide) ?_
    refine tt_iconst hV rfl (pc' := 60) rfl ?_
    obtain ⟨m60, h, hr⟩ := h
    refine tt_cv2U hV rfl rfl rfl (Wd_obj (hB _ _ rfl)) (Nat.le_of_ble_eq_true rfl) (Nat.le_of_ble_eq_true rfl) rfl hr (pc' := 63) rfl ?_
    refine r_aload_n hV rfl rfl (pc' := 64) rfl ?_
    refine tt_getI hV (tg := 0) (ci := 12) (kf := 4) rfl rfl (by decide) (hB _ _ rfl) rfl (by decide) (pc' := 67) rfl ?_
    refine tt_iconst hV rfl (pc' := 68) rfl ?_
    obtain ⟨g5, h⟩ := h
    refine tt_icmp_ne hV rfl g5 (by decide) (pt := 78) (by decide) (pf := 71) rfl (fun hc => ?_) (fun hc => ?_)
    · replace h := h.1 hc
      refine tt_iconst hV rfl (pc' := 79) rfl ?_
      refine tt_istore1 hV rfl rfl (pc' := 80) rfl ?_
      refine r_goto hV rfl (pc' := 21) (by decide) ?_
      exact h
    · replace h := h.2 (Decidable.not_not.mp hc)
      refine r_aload_n hV rfl rfl (pc' := 72) rfl ?_
      obtain ⟨v72, m72, h, hr⟩ := h
      refine tt_cv0I hV rfl rfl rfl (Wd_obj (hB _ _ rfl)) (Nat.le_of_ble_eq_true rfl) (Nat.le_of_ble_eq_true rfl) rfl hr (pc' := 75) rfl ?_
      refine r_goto hV rfl (pc' := 79) (by decide) ?_
      refine tt_istore1 hV rfl rfl (pc' := 80) rfl ?_
      refine r_goto hV rfl (pc' := 21) (by decide) ?_
      exact h
theorem M_isSignw {X : Cx} {d : Nat} {x : Int} {m : Mm} {Q : Int → Mm → Prop} (hB : Bsh X.2.2.1) (h : (-2147483648 ≤ x ∧ x < 2147483648) ∧ (x = 61 → Q 1 m) ∧ (x ≠ 61 → (x = 60 → Q 1 m) ∧ (x ≠ 60 → (x ≠ 62 → Q 0 m) ∧ (x = 62 → Q 1 m)))) : M_isSign X d x m Q := by
  unfold M_isSign
  have hV : Clo (gP X.1 X.2.1) d 182 1 false (Rq (gP X.1 X.2.1) d 182 X.2.2.1 X.2.2.2 Q) := Rq_clo (q := mI182) rfl
  refine r_iload_n hV rfl rfl (pc' := 1) rfl ?_
  refine tt_bipush hV rfl (by decide) (pc' := 3) rfl ?_
  obtain ⟨g1, h⟩ := h
  refine tt_icmp_eq hV rfl g1 (by decide) (pt := 18) (by decide) (pf := 6) rfl (fun hc => ?_) (fun hc => ?_)
  · replace h := h.1 hc
    refine tt_iconst hV rfl (pc' := 19) rfl ?_
    refine r_goto hV rfl (pc' := 23) (by decide) ?_
    exact rq_ret (q := mI182) rfl rfl rfl h
  · replace h := h.2 hc
    refine r_iload_n hV rfl rfl (pc' := 7) rfl ?_
    refine tt_bipush hV rfl (by decide) (pc' := 9) rfl ?_
    refine tt_icmp_eq hV rfl g1 (by decide) (pt := 18) (by decide) (pf := 12) rfl (fun hc => ?_) (fun hc => ?_)
    · replace h := h.1 hc
      refine tt_iconst hV rfl (pc' := 19) rfl ?_
      refine r_goto hV rfl (pc' := 23) (by decide) ?_
      exact rq_ret (q := mI182) rfl rfl rfl h
    · replace h := h.2 hc
      refine r_iload_n hV rfl rfl (pc' := 13) rfl ?_
      refine tt_bipush hV rfl (by decide) (pc' := 15) rfl ?_
      refine tt_icmp_ne hV rfl g1 (by decide) (pt := 22) (by decide) (pf := 18) rfl (fun hc => ?_) (fun hc => ?_)
      · replace h := h.1 hc
        refine tt_iconst hV rfl (pc' := 23) rfl ?_
        exact rq_ret (q := mI182) rfl rfl rfl h
      · replace h := h.2 (Decidable.not_not.mp hc)
        refine tt_iconst hV rfl (pc' := 19) rfl ?_
        refine r_goto hV rfl (pc' := 23) (by decide) ?_
        exact rq_ret (q := mI182) rfl rfl rfl h
theorem M_comparew {X : Cx} {d : Nat} {m : Mm} {Q : Mm → Prop} (hB : Bsh X.2.2.1) (h : (-2147483648 ≤ (m 83 4) ∧ (m 83 4) < 2147483648) ∧ (m 83 4 ≠ -1 → M_isSign X d (-1) m (fun v18 m18 => (-2147483648 ≤ v18 ∧ v18 < 2147483648) ∧ (v18 ≠ 0 → M_sumText X d (up m18 83 3 (m18 83 3 + 1)) (fun m40 => M_put X d 8 0 m40 (fun m69 => Q m69))) ∧ (v18 = 0 → M_bad X d m18 (fun m25 => Q m25)))) ∧ (m 83 4 = -1 → M_look X d m (fun v9 m9 => M_isSign X d v9 m9 (fun v18 m18 => (-2147483648 ≤ v18 ∧ v18 < 2147483648) ∧ (v18 ≠ 0 → M_sumText X d (up m18 83 3 (m18 83 3 + 1)) (fun m40 => (-2147483648 ≤ v9 ∧ v9 < 2147483648) ∧ (v9 ≠ 61 → (v9 ≠ 60 → M_put X d 8 0 m40 (fun m69 => Q m69)) ∧ (v9 = 60 → M_put X d 7 0 m40 (fun m69 => Q m69))) ∧ (v9 = 61 → M_put X d 6 0 m40 (fun m69 => Q m69)))) ∧ (v18 = 0 → M_bad X d m18 (fun m25 => Q m25)))))) : M_compare X (d + 1) m Q := by
  unfold M_compare
  have hV : Clo (gP X.1 X.2.1) (d + 1) 183 2 false (Ru0 (gP X.1 X.2.1) (d + 1) 183 X.2.2.1 X.2.2.2 Q) := Ru0_clo (q := mI183) rfl
  refine r_aload_n hV rfl rfl (pc' := 1) rfl ?_
  refine tt_getI hV (tg := 0) (ci := 12) (kf := 4) rfl rfl (by decide) (hB _ _ rfl) rfl (by decide) (pc' := 4) rfl ?_
  refine tt_iconst hV rfl (pc' := 5) rfl ?_
  obtain ⟨g1, h⟩ := h
  refine tt_icmp_ne hV rfl g1 (by decide) (pt := 15) (by decide) (pf := 8) rfl (fun hc => ?_) (fun hc => ?_)
  · replace h := h.1 hc
    refine tt_iconst hV rfl (pc' := 16) rfl ?_
    refine tt_istore1 hV rfl rfl (pc' := 17) rfl ?_
    refine r_iload_n hV rfl rfl (pc' := 18) rfl ?_
    obtain ⟨v18, m18, h, hr⟩ := h
    refine tt_cs1I hV rfl rfl rfl (Nat.le_of_ble_eq_true rfl) (Nat.le_of_ble_eq_true rfl) rfl hr (pc' := 21) rfl ?_
    obtain ⟨g2, h⟩ := h
    refine tt_if_ne hV rfl g2 (pt := 29) (by decide) (pf := 24) rfl (fun hc => ?_) (fun hc => ?_)
    · replace h := h.1 hc
      refine r_aload_n hV rfl rfl (pc' := 30) rfl ?_
      refine r_dup hV rfl rfl (pc' := 31) rfl ?_
      refine tt_getI hV (tg := 0) (ci := 12) (kf := 3) rfl rfl (by decide) (hB _ _ rfl) rfl (by decide) (pc' := 34) rfl ?_
      refine tt_iconst hV rfl (pc' := 35) rfl ?_
      refine tt_iadd hV rfl (pc' := 36) rfl ?_
      refine tt_putI hV (tg := 0) (ci := 12) (kf := 3) rfl rfl (Or.inl rfl) (hB _ _ rfl) rfl (by decide) rfl (pc' := 39) rfl ?_
      refine r_aload_n hV rfl rfl (pc' := 40) rfl ?_
      obtain ⟨m40, h, hr⟩ := h
      refine tt_cv0U hV rfl rfl rfl (Wd_obj (hB _ _ rfl)) (Nat.le_of_ble_eq_true rfl) (Nat.le_of_ble_eq_true rfl) rfl hr (pc' := 43) rfl ?_
      refine r_aload_n hV rfl rfl (pc' := 44) rfl ?_
      refine r_iload_n hV rfl rfl (pc' := 45) rfl ?_
      refine tt_bipush hV rfl (by decide) (pc' := 47) rfl ?_
      refine tt_icmp_ne hV rfl (by decide) (by decide) (pt := 55) (by decide) (pf := 50) rfl (fun hc => ?_) (fun hc => absurd (by decide) hc)
      clear hc
      refine r_iload_n hV rfl rfl (pc' := 56) rfl ?_
      refine tt_bipush hV rfl (by decide) (pc' := 58) rfl ?_
      refine tt_icmp_ne hV rfl (by decide) (by decide) (pt := 66) (by decide) (pf := 61) rfl (fun hc => ?_) (fun hc => absurd (by decide) hc)
      clear hc
      refine tt_bipush hV rfl (by decide) (pc' := 68) rfl ?_
      refine tt_iconst hV rfl (pc' := 69) rfl ?_
      obtain ⟨m69, h, hr⟩ := h
      refine tt_cv2U hV rfl rfl rfl (Wd_obj (hB _ _ rfl)) (Nat.le_of_ble_eq_true rfl) (Nat.le_of_ble_eq_true rfl) rfl hr (pc' := 72) rfl ?_
      exact ru0_ret (q := mI183) rfl rfl rfl h
    · replace h := h.2 (Decidable.not_not.mp hc)
      refine r_aload_n hV rfl rfl (pc' := 25) rfl ?_
      obtain ⟨m25, h, hr⟩ := h
      refine tt_cv0U hV rfl rfl rfl (Wd_obj (hB _ _ rfl)) (Nat.le_of_ble_eq_true rfl) (Nat.le_of_ble_eq_true rfl) rfl hr (pc' := 28) rfl ?_
      exact ru0_ret (q := mI183) rfl rfl rfl h
  · replace h := h.2 (Decidable.not_not.mp hc)
    refine r_aload_n hV rfl rfl (pc' := 9) rfl ?_
    obtain ⟨v9, m9, h, hr⟩ := h
    refine tt_cv0I hV rfl rfl rfl (Wd_obj (hB _ _ rfl)) (Nat.le_of_ble_eq_true rfl) (Nat.le_of_ble_eq_true rfl) rfl hr (pc' := 12) rfl ?_
    refine r_goto hV rfl (pc' := 16) (by decide) ?_
    refine tt_istore1 hV rfl rfl (pc' := 17) rfl ?_
    refine r_iload_n hV rfl rfl (pc' := 18) rfl ?_
    obtain ⟨v18, m18, h, hr⟩ := h
    refine tt_cs1I hV rfl rfl rfl (Nat.le_of_ble_eq_true rfl) (Nat.le_of_ble_eq_true rfl) rfl hr (pc' := 21) rfl ?_
    obtain ⟨g3, h⟩ := h
    refine tt_if_ne hV rfl g3 (pt := 29) (by decide) (pf := 24) rfl (fun hc => ?_) (fun hc => ?_)
    · replace h := h.1 hc
      refine r_aload_n hV rfl rfl (pc' := 30) rfl ?_
      refine r_dup hV rfl rfl (pc' := 31) rfl ?_
      refine tt_getI hV (tg := 0) (ci := 12) (kf := 3) rfl rfl (by decide) (hB _ _ rfl) rfl (by decide) (pc' := 34) rfl ?_
      refine tt_iconst hV rfl (pc' := 35) rfl ?_
      refine tt_iadd hV rfl (pc' := 36) rfl ?_
      refine tt_putI hV (tg := 0) (ci := 12) (kf := 3) rfl rfl (Or.inl rfl) (hB _ _ rfl) rfl (by decide) rfl (pc' := 39) rfl ?_
      refine r_aload_n hV rfl rfl (pc' := 40) rfl ?_
      obtain ⟨m40, h, hr⟩ := h
      refine tt_cv0U hV rfl rfl rfl (Wd_obj (hB _ _ rfl)) (Nat.le_of_ble_eq_true rfl) (Nat.le_of_ble_eq_true rfl) rfl hr (pc' := 43) rfl ?_
      refine r_aload_n hV rfl rfl (pc' := 44) rfl ?_
      refine r_iload_n hV rfl rfl (pc' := 45) rfl ?_
      refine tt_bipush hV rfl (by decide) (pc' := 47) rfl ?_
      obtain ⟨g4, h⟩ := h
      refine tt_icmp_ne hV rfl g4 (by decide) (pt := 55) (by decide) (pf := 50) rfl (fun hc => ?_) (fun hc => ?_)
      · replace h := h.1 hc
        refine r_iload_n hV rfl rfl (pc' := 56) rfl ?_
        refine tt_bipush hV rfl (by decide) (pc' := 58) rfl ?_
        refine tt_icmp_ne hV rfl g4 (by decide) (pt := 66) (by decide) (pf := 61) rfl (fun hc => ?_) (fun hc => ?_)
        · replace h := h.1 hc
          refine tt_bipush hV rfl (by decide) (pc' := 68) rfl ?_
          refine tt_iconst hV rfl (pc' := 69) rfl ?_
          obtain ⟨m69, h, hr⟩ := h
          refine tt_cv2U hV rfl rfl rfl (Wd_obj (hB _ _ rfl)) (Nat.le_of_ble_eq_true rfl) (Nat.le_of_ble_eq_true rfl) rfl hr (pc' := 72) rfl ?_
          exact ru0_ret (q := mI183) rfl rfl rfl h
        · replace h := h.2 (Decidable.not_not.mp hc)
          refine tt_bipush hV rfl (by decide) (pc' := 63) rfl ?_
          refine r_goto hV rfl (pc' := 68) (by decide) ?_
          refine tt_iconst hV rfl (pc' := 69) rfl ?_
          obtain ⟨m69, h, hr⟩ := h
          refine tt_cv2U hV rfl rfl rfl (Wd_obj (hB _ _ rfl)) (Nat.le_of_ble_eq_true rfl) (Nat.le_of_ble_eq_true rfl) rfl hr (pc' := 72) rfl ?_
          exact ru0_ret (q := mI183) rfl rfl rfl h
      · replace h := h.2 (Decidable.not_not.mp hc)
        refine tt_bipush hV rfl (by decide) (pc' := 52) rfl ?_
        refine r_goto hV rfl (pc' := 68) (by decide) ?_
        refine tt_iconst hV rfl (pc' := 69) rfl ?_
        obtain ⟨m69, h, hr⟩ := h
        refine tt_cv2U hV rfl rfl rfl (Wd_obj (hB _ _ rfl)) (Nat.le_of_ble_eq_true rfl) (Nat.le_of_ble_eq_true rfl) rfl hr (pc' := 72) rfl ?_
        exact ru0_ret (q := mI183) rfl rfl rfl h
    · replace h := h.2 (Decidable.not_not.mp hc)
      refine r_aload_n hV rfl rfl (pc' := 25) rfl ?_
      obtain ⟨m25, h, hr⟩ := h
      refine tt_cv0U hV rfl rfl rfl (Wd_obj (hB _ _ rfl)) (Nat.le_of_ble_eq_true rfl) (Nat.le_of_ble_eq_true rfl) rfl hr (pc' := 28) rfl ?_
      exact ru0_ret (q := mI183) rfl rfl rfl h
theorem M_unitw {X : Cx} {d : Nat} {m : Mm} {Q : Mm → Prop} (hB : Bsh X.2.2.1) (h : M_look X d m (fun v1 m1 => (-2147483648 ≤ v1 ∧ v1 < 2147483648) ∧ (v1 ≠ 33 → (v1 ≠ 40 → M_sumText X d m1 (fun m79 => (-2147483648 ≤ (m79 83 4) ∧ (m79 83 4) < 2147483648) ∧ (m79 83 4 ≠ -1 → Q m79) ∧ (m79 83 4 = -1 → M_compare X d m79 (fun m91 => Q m91)))) ∧ (v1 = 40 → M_opens X d m1 (fun m54 => (-2147483648 ≤ (m54 83 4) ∧ (m54 83 4) < 2147483648) ∧ (m54 83 4 ≠ -1 → Q m54) ∧ (m54 83 4 = -1 → M_condition X d m54 (fun m66 => M_closes X d 41 m66 (fun m72 => Q m72)))))) ∧ (v1 = 33 → M_opens X d m1 (fun m12 => (-2147483648 ≤ (m12 83 4) ∧ (m12 83 4) < 2147483648) ∧ (m12 83 4 ≠ -1 → Q m12) ∧ (m12 83 4 = -1 → M_unit X d m12 (fun m24 => M_put X d 9 0 m24 (fun m31 => Q (up m31 83 5 (m31 83 5 - 1))))))))) : M_unit X (d + 1) m Q := by
  unfold M_unit
  have hV : Clo (gP X.1 X.2.1) (d + 1) 184 2 false (Ru0 (gP X.1 X.2.1) (d + 1) 184 X.2.2.1 X.2.2.2 Q) := Ru0_clo (q := mI184) rfl
  refine r_aload_n hV rfl rfl (pc' := 1) rfl ?_
  obtain ⟨v1, m1, h, hr⟩ := h
  refine tt_cv0I hV rfl rfl rfl (Wd_obj (hB _ _ rfl)) (Nat.le_of_ble_eq_true rfl) (Nat.le_of_ble_eq_true rfl) rfl hr (pc' := 4) rfl ?_
  refine tt_istore1 hV rfl rfl (pc' := 5) rfl ?_
  refine r_iload_n hV rfl rfl (pc' := 6) rfl ?_
  refine tt_bipush hV rfl (by decide) (pc' := 8) rfl ?_
  obtain ⟨g1, h⟩ := h
  refine tt_icmp_ne hV rfl g1 (by decide) (pt := 47) (by decide) (pf := 11) rfl (fun hc => ?_) (fun hc => ?_)
  · replace h := h.1 hc
    refine r_iload_n hV rfl rfl (pc' := 48) rfl ?_
    refine tt_bipush hV rfl (by decide) (pc' := 50) rfl ?_
    refine tt_icmp_ne hV rfl g1 (by decide) (pt := 78) (by decide) (pf := 53) rfl (fun hc => ?_) (fun hc => ?_)
    · replace h := h.1 hc
      refine r_aload_n hV rfl rfl (pc' := 79) rfl ?_
      obtain ⟨m79, h, hr⟩ := h
      refine tt_cv0U hV rfl rfl rfl (Wd_obj (hB _ _ rfl)) (Nat.le_of_ble_eq_true rfl) (Nat.le_of_ble_eq_true rfl) rfl hr (pc' := 82) rfl ?_
      refine r_aload_n hV rfl rfl (pc' := 83) rfl ?_
      refine tt_getI hV (tg := 0) (ci := 12) (kf := 4) rfl rfl (by decide) (hB _ _ rfl) rfl (by decide) (pc' := 86) rfl ?_
      refine tt_iconst hV rfl (pc' := 87) rfl ?_
      obtain ⟨g2, h⟩ := h
      refine tt_icmp_ne hV rfl g2 (by decide) (pt := 94) (by decide) (pf := 90) rfl (fun hc => ?_) (fun hc => ?_)
      · replace h := h.1 hc
        exact ru0_ret (q := mI184) rfl rfl rfl h
      · replace h := h.2 (Decidable.not_not.mp hc)
        refine r_aload_n hV rfl rfl (pc' := 91) rfl ?_
        obtain ⟨m91, h, hr⟩ := h
        refine tt_cv0U hV rfl rfl rfl (Wd_obj (hB _ _ rfl)) (Nat.le_of_ble_eq_true rfl) (Nat.le_of_ble_eq_true rfl) rfl hr (pc' := 94) rfl ?_
        exact ru0_ret (q := mI184) rfl rfl rfl h
    · replace h := h.2 (Decidable.not_not.mp hc)
      refine r_aload_n hV rfl rfl (pc' := 54) rfl ?_
      obtain ⟨m54, h, hr⟩ := h
      refine tt_cv0U hV rfl rfl rfl (Wd_obj (hB _ _ rfl)) (Nat.le_of_ble_eq_true rfl) (Nat.le_of_ble_eq_true rfl) rfl hr (pc' := 57) rfl ?_
      refine r_aload_n hV rfl rfl (pc' := 58) rfl ?_
      refine tt_getI hV (tg := 0) (ci := 12) (kf := 4) rfl rfl (by decide) (hB _ _ rfl) rfl (by decide) (pc' := 61) rfl ?_
      refine tt_iconst hV rfl (pc' := 62) rfl ?_
      obtain ⟨g3, h⟩ := h
      refine tt_icmp_ne hV rfl g3 (by decide) (pt := 94) (by decide) (pf := 65) rfl (fun hc => ?_) (fun hc => ?_)
      · replace h := h.1 hc
        exact ru0_ret (q := mI184) rfl rfl rfl h
      · replace h := h.2 (Decidable.not_not.mp hc)
        refine r_aload_n hV rfl rfl (pc' := 66) rfl ?_
        obtain ⟨m66, h, hr⟩ := h
        refine tt_cv0U hV rfl rfl rfl (Wd_obj (hB _ _ rfl)) (Nat.le_of_ble_eq_true rfl) (Nat.le_of_ble_eq_true rfl) rfl hr (pc' := 69) rfl ?_
        refine r_aload_n hV rfl rfl (pc' := 70) rfl ?_
        refine tt_bipush hV rfl (by decide) (pc' := 72) rfl ?_
        obtain ⟨m72, h, hr⟩ := h
        refine tt_cv1U hV rfl rfl rfl (Wd_obj (hB _ _ rfl)) (Nat.le_of_ble_eq_true rfl) (Nat.le_of_ble_eq_true rfl) rfl hr (pc' := 75) rfl ?_
        refine r_goto hV rfl (pc' := 94) (by decide) ?_
        exact ru0_ret (q := mI184) rfl rfl rfl h
  · replace h := h.2 (Decidable.not_not.mp hc)
    refine r_aload_n hV rfl rfl (pc' := 12) rfl ?_
    obtain ⟨m12, h, hr⟩ := h
    refine tt_cv0U hV rfl rfl rfl (Wd_obj (hB _ _ rfl)) (Nat.le_of_ble_eq_true rfl) (Nat.le_of_ble_eq_true rfl) rfl hr (pc' := 15) rfl ?_
    refine r_aload_n hV rfl rfl (pc' := 16) rfl ?_
    refine tt_getI hV (tg := 0) (ci := 12) (kf := 4) rfl rfl (by decide) (hB _ _ rfl) rfl (by decide) (pc' := 19) rfl ?_
    refine tt_iconst hV rfl (pc' := 20) rfl ?_
    obtain ⟨g4, h⟩ := h
    refine tt_icmp_ne hV rfl g4 (by decide) (pt := 94) (by decide) (pf := 23) rfl (fun hc => ?_) (fun hc => ?_)
    · replace h := h.1 hc
      exact ru0_ret (q := mI184) rfl rfl rfl h
    · replace h := h.2 (Decidable.not_not.mp hc)
      refine r_aload_n hV rfl rfl (pc' := 24) rfl ?_
      obtain ⟨m24, h, hr⟩ := h
      refine tt_cv0U hV rfl rfl rfl (Wd_obj (hB _ _ rfl)) (Nat.le_of_ble_eq_true rfl) (Nat.le_of_ble_eq_true rfl) rfl hr (pc' := 27) rfl ?_
      refine r_aload_n hV rfl rfl (pc' := 28) rfl ?_
      refine tt_bipush hV rfl (by decide) (pc' := 30) rfl ?_
      refine tt_iconst hV rfl (pc' := 31) rfl ?_
      obtain ⟨m31, h, hr⟩ := h
      refine tt_cv2U hV rfl rfl rfl (Wd_obj (hB _ _ rfl)) (Nat.le_of_ble_eq_true rfl) (Nat.le_of_ble_eq_true rfl) rfl hr (pc' := 34) rfl ?_
      refine r_aload_n hV rfl rfl (pc' := 35) rfl ?_
      refine r_dup hV rfl rfl (pc' := 36) rfl ?_
      refine tt_getI hV (tg := 0) (ci := 12) (kf := 5) rfl rfl (by decide) (hB _ _ rfl) rfl (by decide) (pc' := 39) rfl ?_
      refine tt_iconst hV rfl (pc' := 40) rfl ?_
      refine tt_isub hV rfl (pc' := 41) rfl ?_
      refine tt_putI hV (tg := 0) (ci := 12) (kf := 5) rfl rfl (Or.inl rfl) (hB _ _ rfl) rfl (by decide) rfl (pc' := 44) rfl ?_
      refine r_goto hV rfl (pc' := 94) (by decide) ?_
      exact ru0_ret (q := mI184) rfl rfl rfl h
theorem M_goOnAndw {X : Cx} {d : Nat} {m : Mm} {Q : Mm → Prop} (hB : Bsh X.2.2.1) (h : (-2147483648 ≤ (m 83 4) ∧ (m 83 4) < 2147483648) ∧ (m 83 4 ≠ -1 → Q m) ∧ (m 83 4 = -1 → M_look X d m (fun v9 m9 => (-2147483648 ≤ v9 ∧ v9 < 2147483648) ∧ (v9 ≠ 38 → Q m9) ∧ (v9 = 38 → M_unit X d (up m9 83 3 (m9 83 3 + 1)) (fun m28 => M_put X d 10 0 m28 (fun m35 => M_goOnAnd X (d + 1) m35 Q)))))) : M_goOnAnd X (d + 1) m Q := by
  unfold M_goOnAnd
  have hV : Clo (gP X.1 X.2.1) (d + 1) 185 1 false (Ru0 (gP X.1 X.2.1) (d + 1) 185 X.2.2.1 X.2.2.2 Q) := Ru0_clo (q := mI185) rfl
  refine r_aload_n hV rfl rfl (pc' := 1) rfl ?_
  refine tt_getI hV (tg := 0) (ci := 12) (kf := 4) rfl rfl (by decide) (hB _ _ rfl) rfl (by decide) (pc' := 4) rfl ?_
  refine tt_iconst hV rfl (pc' := 5) rfl ?_
  obtain ⟨g1, h⟩ := h
  refine tt_icmp_ne hV rfl g1 (by decide) (pt := 41) (by decide) (pf := 8) rfl (fun hc => ?_) (fun hc => ?_)
  · replace h := h.1 hc
    exact ru0_ret (q := mI185) rfl rfl rfl h
  · replace h := h.2 (Decidable.not_not.mp hc)
    refine r_aload_n hV rfl rfl (pc' := 9) rfl ?_
    obtain ⟨v9, m9, h, hr⟩ := h
    refine tt_cv0I hV rfl rfl rfl (Wd_obj (hB _ _ rfl)) (Nat.le_of_ble_eq_true rfl) (Nat.le_of_ble_eq_true rfl) rfl hr (pc' := 12) rfl ?_
    refine tt_bipush hV rfl (by decide) (pc' := 14) rfl ?_
    obtain ⟨g2, h⟩ := h
    refine tt_icmp_ne hV rfl g2 (by decide) (pt := 41) (by decide) (pf := 17) rfl (fun hc => ?_) (fun hc => ?_)
    · replace h := h.1 hc
      exact ru0_ret (q := mI185) rfl rfl rfl h
    · replace h := h.2 (Decidable.not_not.mp hc)
      refine r_aload_n hV rfl rfl (pc' := 18) rfl ?_
      refine r_dup hV rfl rfl (pc' := 19) rfl ?_
      refine tt_getI hV (tg := 0) (ci := 12) (kf := 3) rfl rfl (by decide) (hB _ _ rfl) rfl (by decide) (pc' := 22) rfl ?_
      refine tt_iconst hV rfl (pc' := 23) rfl ?_
      refine tt_iadd hV rfl (pc' := 24) rfl ?_
      refine tt_putI hV (tg := 0) (ci := 12) (kf := 3) rfl rfl (Or.inl rfl) (hB _ _ rfl) rfl (by decide) rfl (pc' := 27) rfl ?_
      refine r_aload_n hV rfl rfl (pc' := 28) rfl ?_
      obtain ⟨m28, h, hr⟩ := h
      refine tt_cv0U hV rfl rfl rfl (Wd_obj (hB _ _ rfl)) (Nat.le_of_ble_eq_true rfl) (Nat.le_of_ble_eq_true rfl) rfl hr (pc' := 31) rfl ?_
      refine r_aload_n hV rfl rfl (pc' := 32) rfl ?_
      refine tt_bipush hV rfl (by decide) (pc' := 34) rfl ?_
      refine tt_iconst hV rfl (pc' := 35) rfl ?_
      obtain ⟨m35, h, hr⟩ := h
      refine tt_cv2U hV rfl rfl rfl (Wd_obj (hB _ _ rfl)) (Nat.le_of_ble_eq_true rfl) (Nat.le_of_ble_eq_true rfl) rfl hr (pc' := 38) rfl ?_
      refine r_goto hV rfl (pc' := 0) (by decide) ?_
      exact h
theorem M_goOnOrw {X : Cx} {d : Nat} {m : Mm} {Q : Mm → Prop} (hB : Bsh X.2.2.1) (h : (-2147483648 ≤ (m 83 4) ∧ (m 83 4) < 2147483648) ∧ (m 83 4 ≠ -1 → Q m) ∧ (m 83 4 = -1 → M_look X d m (fun v9 m9 => (-2147483648 ≤ v9 ∧ v9 < 2147483648) ∧ (v9 ≠ 124 → Q m9) ∧ (v9 = 124 → M_unit X d (up m9 83 3 (m9 83 3 + 1)) (fun m28 => M_goOnAnd X d m28 (fun m32 => M_put X d 11 0 m32 (fun m39 => M_goOnOr X (d + 1) m39 Q))))))) : M_goOnOr X (d + 1) m Q := by
  unfold M_goOnOr
  have hV : Clo (gP X.1 X.2.1) (d + 1) 186 1 false (Ru0 (gP X.1 X.2.1) (d + 1) 186 X.2.2.1 X.2.2.2 Q) := Ru0_clo (q := mI186) rfl
  refine r_aload_n hV rfl rfl (pc' := 1) rfl ?_
  refine tt_getI hV (tg := 0) (ci := 12) (kf := 4) rfl rfl (by decide) (hB _ _ rfl) rfl (by decide) (pc' := 4) rfl ?_
  refine tt_iconst hV rfl (pc' := 5) rfl ?_
  obtain ⟨g1, h⟩ := h
  refine tt_icmp_ne hV rfl g1 (by decide) (pt := 45) (by decide) (pf := 8) rfl (fun hc => ?_) (fun hc => ?_)
  · replace h := h.1 hc
    exact ru0_ret (q := mI186) rfl rfl rfl h
  · replace h := h.2 (Decidable.not_not.mp hc)
    refine r_aload_n hV rfl rfl (pc' := 9) rfl ?_
    obtain ⟨v9, m9, h, hr⟩ := h
    refine tt_cv0I hV rfl rfl rfl (Wd_obj (hB _ _ rfl)) (Nat.le_of_ble_eq_true rfl) (Nat.le_of_ble_eq_true rfl) rfl hr (pc' := 12) rfl ?_
    refine tt_bipush hV rfl (by decide) (pc' := 14) rfl ?_
    obtain ⟨g2, h⟩ := h
    refine tt_icmp_ne hV rfl g2 (by decide) (pt := 45) (by decide) (pf := 17) rfl (fun hc => ?_) (fun hc => ?_)
    · replace h := h.1 hc
      exact ru0_ret (q := mI186) rfl rfl rfl h
    · replace h := h.2 (Decidable.not_not.mp hc)
      refine r_aload_n hV rfl rfl (pc' := 18) rfl ?_
      refine r_dup hV rfl rfl (pc' := 19) rfl ?_
      refine tt_getI hV (tg := 0) (ci := 12) (kf := 3) rfl rfl (by decide) (hB _ _ rfl) rfl (by decide) (pc' := 22) rfl ?_
      refine tt_iconst hV rfl (pc' := 23) rfl ?_
      refine tt_iadd hV rfl (pc' := 24) rfl ?_
      refine tt_putI hV (tg := 0) (ci := 12) (kf := 3) rfl rfl (Or.inl rfl) (hB _ _ rfl) rfl (by decide) rfl (pc' := 27) rfl ?_
      refine r_aload_n hV rfl rfl (pc' := 28) rfl ?_
      obtain ⟨m28, h, hr⟩ := h
      refine tt_cv0U hV rfl rfl rfl (Wd_obj (hB _ _ rfl)) (Nat.le_of_ble_eq_true rfl) (Nat.le_of_ble_eq_true rfl) rfl hr (pc' := 31) rfl ?_
      refine r_aload_n hV rfl rfl (pc' := 32) rfl ?_
      obtain ⟨m32, h, hr⟩ := h
      refine tt_cv0U hV rfl rfl rfl (Wd_obj (hB _ _ rfl)) (Nat.le_of_ble_eq_true rfl) (Nat.le_of_ble_eq_true rfl) rfl hr (pc' := 35) rfl ?_
      refine r_aload_n hV rfl rfl (pc' := 36) rfl ?_
      refine tt_bipush hV rfl (by decide) (pc' := 38) rfl ?_
      refine tt_iconst hV rfl (pc' := 39) rfl ?_
      obtain ⟨m39, h, hr⟩ := h
      refine tt_cv2U hV rfl rfl rfl (Wd_obj (hB _ _ rfl)) (Nat.le_of_ble_eq_true rfl) (Nat.le_of_ble_eq_true rfl) rfl hr (pc' := 42) rfl ?_
      refine r_goto hV rfl (pc' := 0) (by decide) ?_
      exact h
theorem M_conditionw {X : Cx} {d : Nat} {m : Mm} {Q : Mm → Prop} (hB : Bsh X.2.2.1) (h : M_unit X d m (fun m1 => M_goOnAnd X d m1 (fun m5 => M_goOnOr X d m5 (fun m9 => Q m9)))) : M_condition X (d + 1) m Q := by
  unfold M_condition
  have hV : Clo (gP X.1 X.2.1) (d + 1) 187 1 false (Ru0 (gP X.1 X.2.1) (d + 1) 187 X.2.2.1 X.2.2.2 Q) := Ru0_clo (q := mI187) rfl
  refine r_aload_n hV rfl rfl (pc' := 1) rfl ?_
  obtain ⟨m1, h, hr⟩ := h
  refine tt_cv0U hV rfl rfl rfl (Wd_obj (hB _ _ rfl)) (Nat.le_of_ble_eq_true rfl) (Nat.le_of_ble_eq_true rfl) rfl hr (pc' := 4) rfl ?_
  refine r_aload_n hV rfl rfl (pc' := 5) rfl ?_
  obtain ⟨m5, h, hr⟩ := h
  refine tt_cv0U hV rfl rfl rfl (Wd_obj (hB _ _ rfl)) (Nat.le_of_ble_eq_true rfl) (Nat.le_of_ble_eq_true rfl) rfl hr (pc' := 8) rfl ?_
  refine r_aload_n hV rfl rfl (pc' := 9) rfl ?_
  obtain ⟨m9, h, hr⟩ := h
  refine tt_cv0U hV rfl rfl rfl (Wd_obj (hB _ _ rfl)) (Nat.le_of_ble_eq_true rfl) (Nat.le_of_ble_eq_true rfl) rfl hr (pc' := 12) rfl ?_
  exact ru0_ret (q := mI187) rfl rfl rfl h
theorem M_clausew {X : Cx} {d : Nat} {m : Mm} {Q : Mm → Prop} (hB : Bsh X.2.2.1) (h : (0 ≤ m 83 14 ∧ m 83 14 < 5) ∧ (-2147483648 ≤ (m 83 4) ∧ (m 83 4) < 2147483648) ∧ (m 83 4 ≠ -1 → M_clause_40 X (d + 1) (140 * (m 83 14) + m 88 (m 83 14)) m Q) ∧ (m 83 4 = -1 → M_look X d m (fun v28 m28 => (-2147483648 ≤ v28 ∧ v28 < 2147483648) ∧ (v28 = 121 → M_clause_40 X (d + 1) (140 * (m 83 14) + m 88 (m 83 14)) m28 Q) ∧ (v28 ≠ 121 → M_bad X d m28 (fun m37 => M_clause_40 X (d + 1) (140 * (m 83 14) + m 88 (m 83 14)) m37 Q))))) : M_clause X (d + 1) m Q := by
  unfold M_clause
  have hV : Clo (gP X.1 X.2.1) (d + 1) 188 3 false (Ru0 (gP X.1 X.2.1) (d + 1) 188 X.2.2.1 X.2.2.2 Q) := Ru0_clo (q := mI188) rfl
  refine tt_sipush hV rfl (by decide) (pc' := 3) rfl ?_
  refine r_aload_n hV rfl rfl (pc' := 4) rfl ?_
  refine tt_getI hV (tg := 0) (ci := 12) (kf := 14) rfl rfl (by decide) (hB _ _ rfl) rfl (by decide) (pc' := 7) rfl ?_
  refine tt_imul hV rfl (pc' := 8) rfl ?_
  refine vtI (y := 140 * (m 83 14)) (by clear h; omega) ?_
  refine r_aload_n hV rfl rfl (pc' := 9) rfl ?_
  refine tt_getR hV (tg := 6) (ci := 12) (kf := 9) rfl rfl (by decide) (hB _ _ rfl) rfl (by decide) (pc' := 12) rfl ?_
  refine r_aload_n hV rfl rfl (pc' := 13) rfl ?_
  refine tt_getI hV (tg := 0) (ci := 12) (kf := 14) rfl rfl (by decide) (hB _ _ rfl) rfl (by decide) (pc' := 16) rfl ?_
  obtain ⟨g1, h⟩ := h
  refine q_iald hV rfl (hB _ _ rfl) (Nat.le_of_ble_eq_true rfl) rfl g1 (pc' := 17) rfl ?_
  refine tt_iadd hV rfl (pc' := 18) rfl ?_
  refine tt_istore1 hV rfl rfl (pc' := 19) rfl ?_
  refine r_aload_n hV rfl rfl (pc' := 20) rfl ?_
  refine tt_getI hV (tg := 0) (ci := 12) (kf := 4) rfl rfl (by decide) (hB _ _ rfl) rfl (by decide) (pc' := 23) rfl ?_
  refine tt_iconst hV rfl (pc' := 24) rfl ?_
  obtain ⟨g2, h⟩ := h
  refine tt_icmp_ne hV rfl g2 (by decide) (pt := 40) (by decide) (pf := 27) rfl (fun hc => ?_) (fun hc => ?_)
  · replace h := h.1 hc
    exact h
  · replace h := h.2 (Decidable.not_not.mp hc)
    refine r_aload_n hV rfl rfl (pc' := 28) rfl ?_
    obtain ⟨v28, m28, h, hr⟩ := h
    refine tt_cv0I hV rfl rfl rfl (Wd_obj (hB _ _ rfl)) (Nat.le_of_ble_eq_true rfl) (Nat.le_of_ble_eq_true rfl) rfl hr (pc' := 31) rfl ?_
    refine tt_bipush hV rfl (by decide) (pc' := 33) rfl ?_
    obtain ⟨g3, h⟩ := h
    refine tt_icmp_eq hV rfl g3 (by decide) (pt := 40) (by decide) (pf := 36) rfl (fun hc => ?_) (fun hc => ?_)
    · replace h := h.1 hc
      exact h
    · replace h := h.2 hc
      refine r_aload_n hV rfl rfl (pc' := 37) rfl ?_
      obtain ⟨m37, h, hr⟩ := h
      refine tt_cv0U hV rfl rfl rfl (Wd_obj (hB _ _ rfl)) (Nat.le_of_ble_eq_true rfl) (Nat.le_of_ble_eq_true rfl) rfl hr (pc' := 40) rfl ?_
      exact h
theorem M_clause_40w {X : Cx} {d : Nat} {l1 : Int} {m : Mm} {Q : Mm → Prop} (hB : Bsh X.2.2.1) (h : (-2147483648 ≤ (m 83 4) ∧ (m 83 4) < 2147483648) ∧ (m 83 4 ≠ -1 → M_clause_71 X (d + 1) l1 (up m 83 3 (m 83 3 + 1)) Q) ∧ (m 83 4 = -1 → M_look X d (up m 83 3 (m 83 3 + 1)) (fun v59 m59 => (-2147483648 ≤ v59 ∧ v59 < 2147483648) ∧ (v59 = 58 → M_clause_71 X (d + 1) l1 m59 Q) ∧ (v59 ≠ 58 → M_bad X d m59 (fun m68 => M_clause_71 X (d + 1) l1 m68 Q))))) : M_clause_40 X (d + 1) l1 m Q := by
  unfold M_clause_40
  have hV : Clo (gP X.1 X.2.1) (d + 1) 188 3 false (Ru0 (gP X.1 X.2.1) (d + 1) 188 X.2.2.1 X.2.2.2 Q) := Ru0_clo (q := mI188) rfl
  refine r_aload_n hV rfl rfl (pc' := 41) rfl ?_
  refine r_dup hV rfl rfl (pc' := 42) rfl ?_
  refine tt_getI hV (tg := 0) (ci := 12) (kf := 3) rfl rfl (by decide) (hB _ _ rfl) rfl (by decide) (pc' := 45) rfl ?_
  refine tt_iconst hV rfl (pc' := 46) rfl ?_
  refine tt_iadd hV rfl (pc' := 47) rfl ?_
  refine tt_putI hV (tg := 0) (ci := 12) (kf := 3) rfl rfl (Or.inl rfl) (hB _ _ rfl) rfl (by decide) rfl (pc' := 50) rfl ?_
  refine r_aload_n hV rfl rfl (pc' := 51) rfl ?_
  refine tt_getI hV (tg := 0) (ci := 12) (kf := 4) rfl rfl (by decide) (hB _ _ rfl) rfl (by decide) (pc' := 54) rfl ?_
  refine vtI (y := m 83 4) (up_ne (Or.inr (by decide))) ?_
  refine tt_iconst hV rfl (pc' := 55) rfl ?_
  obtain ⟨g4, h⟩ := h
  refine tt_icmp_ne hV rfl g4 (by decide) (pt := 71) (by decide) (pf := 58) rfl (fun hc => ?_) (fun hc => ?_)
  · replace h := h.1 hc
    exact h
  · replace h := h.2 (Decidable.not_not.mp hc)
    refine r_aload_n hV rfl rfl (pc' := 59) rfl ?_
    obtain ⟨v59, m59, h, hr⟩ := h
    refine tt_cv0I hV rfl rfl rfl (Wd_obj (hB _ _ rfl)) (Nat.le_of_ble_eq_true rfl) (Nat.le_of_ble_eq_true rfl) rfl hr (pc' := 62) rfl ?_
    refine tt_bipush hV rfl (by decide) (pc' := 64) rfl ?_
    obtain ⟨g5, h⟩ := h
    refine tt_icmp_eq hV rfl g5 (by decide) (pt := 71) (by decide) (pf := 67) rfl (fun hc => ?_) (fun hc => ?_)
    · replace h := h.1 hc
      exact h
    · replace h := h.2 hc
      refine r_aload_n hV rfl rfl (pc' := 68) rfl ?_
      obtain ⟨m68, h, hr⟩ := h
      refine tt_cv0U hV rfl rfl rfl (Wd_obj (hB _ _ rfl)) (Nat.le_of_ble_eq_true rfl) (Nat.le_of_ble_eq_true rfl) rfl hr (pc' := 71) rfl ?_
      exact h
theorem M_clause_71w {X : Cx} {d : Nat} {l1 : Int} {m : Mm} {Q : Mm → Prop} (hB : Bsh X.2.2.1) (h : (-2147483648 ≤ (m 83 4) ∧ (m 83 4) < 2147483648) ∧ (m 83 4 = -1 → (0 ≤ m 83 14 ∧ m 83 14 < 5) ∧ (0 ≤ l1 ∧ l1 < 700) ∧ M_look X d (up (up m 83 3 (m 83 3 + 1)) 89 l1 (m 87 (m 83 14))) (fun v106 m106 => (-2147483648 ≤ v106 ∧ v106 < 2147483648) ∧ (v106 = 33 → M_clause_123 X (d + 1) l1 m106 Q) ∧ (v106 ≠ 33 → M_look X d m106 (fun v115 m115 => (-2147483648 ≤ v115 ∧ v115 < 2147483648) ∧ (v115 ≠ 40 → M_sumText X d m115 (fun m141 => (-2147483648 ≤ (m141 83 4) ∧ (m141 83 4) < 2147483648) ∧ (m141 83 4 ≠ -1 → M_clause_166 X (d + 1) l1 0 m141 Q) ∧ (m141 83 4 = -1 → M_look X d m141 (fun v153 m153 => M_isSign X d v153 m153 (fun v156 m156 => (-2147483648 ≤ v156 ∧ v156 < 2147483648) ∧ (v156 = 0 → M_clause_166 X (d + 1) l1 0 m156 Q) ∧ (v156 ≠ 0 → M_compare X d m156 (fun m173 => M_goOnAnd X d m173 (fun m177 => M_goOnOr X d m177 (fun m181 => M_clause_184 X (d + 1) l1 1 m181 Q))))))))) ∧ (v115 = 40 → M_clause_123 X (d + 1) l1 m115 Q))))) ∧ (m 83 4 ≠ -1 → Q (up m 83 3 (m 83 3 + 1)))) : M_clause_71 X (d + 1) l1 m Q := by
  unfold M_clause_71
  have hV : Clo (gP X.1 X.2.1) (d + 1) 188 3 false (Ru0 (gP X.1 X.2.1) (d + 1) 188 X.2.2.1 X.2.2.2 Q) := Ru0_clo (q := mI188) rfl
  refine r_aload_n hV rfl rfl (pc' := 72) rfl ?_
  refine r_dup hV rfl rfl (pc' := 73) rfl ?_
  refine tt_getI hV (tg := 0) (ci := 12) (kf := 3) rfl rfl (by decide) (hB _ _ rfl) rfl (by decide) (pc' := 76) rfl ?_
  refine tt_iconst hV rfl (pc' := 77) rfl ?_
  refine tt_iadd hV rfl (pc' := 78) rfl ?_
  refine tt_putI hV (tg := 0) (ci := 12) (kf := 3) rfl rfl (Or.inl rfl) (hB _ _ rfl) rfl (by decide) rfl (pc' := 81) rfl ?_
  refine r_aload_n hV rfl rfl (pc' := 82) rfl ?_
  refine tt_getI hV (tg := 0) (ci := 12) (kf := 4) rfl rfl (by decide) (hB _ _ rfl) rfl (by decide) (pc' := 85) rfl ?_
  refine vtI (y := m 83 4) (up_ne (Or.inr (by decide))) ?_
  refine tt_iconst hV rfl (pc' := 86) rfl ?_
  obtain ⟨g6, h⟩ := h
  refine tt_icmp_eq hV rfl g6 (by decide) (pt := 90) (by decide) (pf := 89) rfl (fun hc => ?_) (fun hc => ?_)
  · replace h := h.1 hc
    refine r_aload_n hV rfl rfl (pc' := 91) rfl ?_
    refine tt_getR hV (tg := 6) (ci := 12) (kf := 10) rfl rfl (by decide) (hB _ _ rfl) rfl (by decide) (pc' := 94) rfl ?_
    refine r_iload_n hV rfl rfl (pc' := 95) rfl ?_
    refine r_aload_n hV rfl rfl (pc' := 96) rfl ?_
    refine tt_getR hV (tg := 6) (ci := 12) (kf := 8) rfl rfl (by decide) (hB _ _ rfl) rfl (by decide) (pc' := 99) rfl ?_
    refine r_aload_n hV rfl rfl (pc' := 100) rfl ?_
    refine tt_getI hV (tg := 0) (ci := 12) (kf := 14) rfl rfl (by decide) (hB _ _ rfl) rfl (by decide) (pc' := 103) rfl ?_
    refine vtI (y := m 83 14) (up_ne (Or.inr (by decide))) ?_
    obtain ⟨g7, h⟩ := h
    refine q_iald hV rfl (hB _ _ rfl) (Nat.le_of_ble_eq_true rfl) rfl g7 (pc' := 104) rfl ?_
    refine vtI (y := m 87 (m 83 14)) (up_ne (Or.inl (by decide))) ?_
    obtain ⟨g8, h⟩ := h
    refine q_iast hV rfl (hB _ _ rfl) (Nat.le_of_ble_eq_true rfl) rfl g8 (pc' := 105) rfl ?_
    refine r_aload_n hV rfl rfl (pc' := 106) rfl ?_
    obtain ⟨v106, m106, h, hr⟩ := h
    refine tt_cv0I hV rfl rfl rfl (Wd_obj (hB _ _ rfl)) (Nat.le_of_ble_eq_true rfl) (Nat.le_of_ble_eq_true rfl) rfl hr (pc' := 109) rfl ?_
    refine tt_bipush hV rfl (by decide) (pc' := 111) rfl ?_
    obtain ⟨g9, h⟩ := h
    refine tt_icmp_eq hV rfl g9 (by decide) (pt := 123) (by decide) (pf := 114) rfl (fun hc => ?_) (fun hc => ?_)
    · replace h := h.1 hc
      exact h
    · replace h := h.2 hc
      refine r_aload_n hV rfl rfl (pc' := 115) rfl ?_
      obtain ⟨v115, m115, h, hr⟩ := h
      refine tt_cv0I hV rfl rfl rfl (Wd_obj (hB _ _ rfl)) (Nat.le_of_ble_eq_true rfl) (Nat.le_of_ble_eq_true rfl) rfl hr (pc' := 118) rfl ?_
      refine tt_bipush hV rfl (by decide) (pc' := 120) rfl ?_
      obtain ⟨g10, h⟩ := h
      refine tt_icmp_ne hV rfl g10 (by decide) (pt := 127) (by decide) (pf := 123) rfl (fun hc => ?_) (fun hc => ?_)
      · replace h := h.1 hc
        refine tt_iconst hV rfl (pc' := 128) rfl ?_
        refine tt_istore2 hV rfl rfl (pc' := 129) rfl ?_
        refine r_iload_n hV rfl rfl (pc' := 130) rfl ?_
        refine tt_if_eq hV rfl (by decide) (pt := 140) (by decide) (pf := 133) rfl (fun hc => ?_) (fun hc => absurd (by decide) hc)
        clear hc
        refine r_aload_n hV rfl rfl (pc' := 141) rfl ?_
        obtain ⟨m141, h, hr⟩ := h
        refine tt_cv0U hV rfl rfl rfl (Wd_obj (hB _ _ rfl)) (Nat.le_of_ble_eq_true rfl) (Nat.le_of_ble_eq_true rfl) rfl hr (pc' := 144) rfl ?_
        refine r_aload_n hV rfl rfl (pc' := 145) rfl ?_
        refine tt_getI hV (tg := 0) (ci := 12) (kf := 4) rfl rfl (by decide) (hB _ _ rfl) rfl (by decide) (pc' := 148) rfl ?_
        refine tt_iconst hV rfl (pc' := 149) rfl ?_
        obtain ⟨g11, h⟩ := h
        refine tt_icmp_ne hV rfl g11 (by decide) (pt := 166) (by decide) (pf := 152) rfl (fun hc => ?_) (fun hc => ?_)
        · replace h := h.1 hc
          exact h
        · replace h := h.2 (Decidable.not_not.mp hc)
          refine r_aload_n hV rfl rfl (pc' := 153) rfl ?_
          obtain ⟨v153, m153, h, hr⟩ := h
          refine tt_cv0I hV rfl rfl rfl (Wd_obj (hB _ _ rfl)) (Nat.le_of_ble_eq_true rfl) (Nat.le_of_ble_eq_true rfl) rfl hr (pc' := 156) rfl ?_
          obtain ⟨v156, m156, h, hr⟩ := h
          refine tt_cs1I hV rfl rfl rfl (Nat.le_of_ble_eq_true rfl) (Nat.le_of_ble_eq_true rfl) rfl hr (pc' := 159) rfl ?_
          obtain ⟨g12, h⟩ := h
          refine tt_if_eq hV rfl g12 (pt := 166) (by decide) (pf := 162) rfl (fun hc => ?_) (fun hc => ?_)
          · replace h := h.1 hc
            exact h
          · replace h := h.2 hc
            refine tt_iconst hV rfl (pc' := 163) rfl ?_
            refine r_goto hV rfl (pc' := 167) (by decide) ?_
            refine tt_istore2 hV rfl rfl (pc' := 168) rfl ?_
            refine r_iload_n hV rfl rfl (pc' := 169) rfl ?_
            refine tt_if_eq hV rfl (by decide) (pt := 184) (by decide) (pf := 172) rfl (fun hc => absurd hc (by decide)) (fun hc => ?_)
            clear hc
            refine r_aload_n hV rfl rfl (pc' := 173) rfl ?_
            obtain ⟨m173, h, hr⟩ := h
            refine tt_cv0U hV rfl rfl rfl (Wd_obj (hB _ _ rfl)) (Nat.le_of_ble_eq_true rfl) (Nat.le_of_ble_eq_true rfl) rfl hr (pc' := 176) rfl ?_
            refine r_aload_n hV rfl rfl (pc' := 177) rfl ?_
            obtain ⟨m177, h, hr⟩ := h
            refine tt_cv0U hV rfl rfl rfl (Wd_obj (hB _ _ rfl)) (Nat.le_of_ble_eq_true rfl) (Nat.le_of_ble_eq_true rfl) rfl hr (pc' := 180) rfl ?_
            refine r_aload_n hV rfl rfl (pc' := 181) rfl ?_
            obtain ⟨m181, h, hr⟩ := h
            refine tt_cv0U hV rfl rfl rfl (Wd_obj (hB _ _ rfl)) (Nat.le_of_ble_eq_true rfl) (Nat.le_of_ble_eq_true rfl) rfl hr (pc' := 184) rfl ?_
            exact h
      · replace h := h.2 (Decidable.not_not.mp hc)
        exact h
  · replace h := h.2 hc
    exact ru0_ret (q := mI188) rfl rfl rfl h
theorem M_clause_123w {X : Cx} {d : Nat} {l1 : Int} {m : Mm} {Q : Mm → Prop} (hB : Bsh X.2.2.1) (h : M_condition X d m (fun m134 => M_clause_184 X (d + 1) l1 1 m134 Q)) : M_clause_123 X (d + 1) l1 m Q := by
  unfold M_clause_123
  have hV : Clo (gP X.1 X.2.1) (d + 1) 188 3 false (Ru0 (gP X.1 X.2.1) (d + 1) 188 X.2.2.1 X.2.2.2 Q) := Ru0_clo (q := mI188) rfl
  refine tt_iconst hV rfl (pc' := 124) rfl ?_
  refine r_goto hV rfl (pc' := 128) (by decide) ?_
  refine tt_istore2 hV rfl rfl (pc' := 129) rfl ?_
  refine r_iload_n hV rfl rfl (pc' := 130) rfl ?_
  refine tt_if_eq hV rfl (by decide) (pt := 140) (by decide) (pf := 133) rfl (fun hc => absurd hc (by decide)) (fun hc => ?_)
  clear hc
  refine r_aload_n hV rfl rfl (pc' := 134) rfl ?_
  obtain ⟨m134, h, hr⟩ := h
  refine tt_cv0U hV rfl rfl rfl (Wd_obj (hB _ _ rfl)) (Nat.le_of_ble_eq_true rfl) (Nat.le_of_ble_eq_true rfl) rfl hr (pc' := 137) rfl ?_
  refine r_goto hV rfl (pc' := 184) (by decide) ?_
  exact h
theorem M_clause_166w {X : Cx} {d : Nat} {l1 : Int} {l2 : Int} {m : Mm} {Q : Mm → Prop} (hB : Bsh X.2.2.1) (h : M_clause_184 X (d + 1) l1 0 m Q) : M_clause_166 X (d + 1) l1 l2 m Q := by
  unfold M_clause_166
  have hV : Clo (gP X.1 X.2.1) (d + 1) 188 3 false (Ru0 (gP X.1 X.2.1) (d + 1) 188 X.2.2.1 X.2.2.2 Q) := Ru0_clo (q := mI188) rfl
  refine tt_iconst hV rfl (pc' := 167) rfl ?_
  refine tt_istore2 hV rfl rfl (pc' := 168) rfl ?_
  refine r_iload_n hV rfl rfl (pc' := 169) rfl ?_
  refine tt_if_eq hV rfl (by decide) (pt := 184) (by decide) (pf := 172) rfl (fun hc => ?_) (fun hc => absurd (by decide) hc)
  clear hc
  exact h
theorem M_clause_184w {X : Cx} {d : Nat} {l1 : Int} {l2 : Int} {m : Mm} {Q : Mm → Prop} (hB : Bsh X.2.2.1) (h : (0 ≤ l1 ∧ l1 < 700) ∧ (-2147483648 ≤ l2 ∧ l2 < 2147483648) ∧ (l2 = 0 → M_clause_251 X (d + 1) l1 l2 (up m 90 l1 (m 89 l1)) Q) ∧ (l2 ≠ 0 → (-2147483648 ≤ (m 83 4) ∧ (m 83 4) < 2147483648) ∧ (m 83 4 ≠ -1 → M_clause_251 X (d + 1) l1 l2 (up m 90 l1 (m 89 l1)) Q) ∧ (m 83 4 = -1 → M_look X d (up m 90 l1 (m 89 l1)) (fun v209 m209 => (-2147483648 ≤ v209 ∧ v209 < 2147483648) ∧ (v209 = 63 → (0 ≤ m209 83 14 ∧ m209 83 14 < 5) ∧ M_sumText X d (up (up m209 83 3 (m209 83 3 + 1)) 90 l1 (m209 87 (m209 83 14))) (fun m248 => M_clause_251 X (d + 1) l1 l2 m248 Q)) ∧ (v209 ≠ 63 → M_bad X d m209 (fun m218 => Q m218)))))) : M_clause_184 X (d + 1) l1 l2 m Q := by
  unfold M_clause_184
  have hV : Clo (gP X.1 X.2.1) (d + 1) 188 3 false (Ru0 (gP X.1 X.2.1) (d + 1) 188 X.2.2.1 X.2.2.2 Q) := Ru0_clo (q := mI188) rfl
  refine r_aload_n hV rfl rfl (pc' := 185) rfl ?_
  refine tt_getR hV (tg := 6) (ci := 12) (kf := 11) rfl rfl (by decide) (hB _ _ rfl) rfl (by decide) (pc' := 188) rfl ?_
  refine r_iload_n hV rfl rfl (pc' := 189) rfl ?_
  refine r_aload_n hV rfl rfl (pc' := 190) rfl ?_
  refine tt_getR hV (tg := 6) (ci := 12) (kf := 10) rfl rfl (by decide) (hB _ _ rfl) rfl (by decide) (pc' := 193) rfl ?_
  refine r_iload_n hV rfl rfl (pc' := 194) rfl ?_
  obtain ⟨g13, h⟩ := h
  refine q_iald hV rfl (hB _ _ rfl) (Nat.le_of_ble_eq_true rfl) rfl g13 (pc' := 195) rfl ?_
  refine q_iast hV rfl (hB _ _ rfl) (Nat.le_of_ble_eq_true rfl) rfl g13 (pc' := 196) rfl ?_
  refine r_iload_n hV rfl rfl (pc' := 197) rfl ?_
  obtain ⟨g14, h⟩ := h
  refine tt_if_eq hV rfl g14 (pt := 251) (by decide) (pf := 200) rfl (fun hc => ?_) (fun hc => ?_)
  · replace h := h.1 hc
    exact h
  · replace h := h.2 hc
    refine r_aload_n hV rfl rfl (pc' := 201) rfl ?_
    refine tt_getI hV (tg := 0) (ci := 12) (kf := 4) rfl rfl (by decide) (hB _ _ rfl) rfl (by decide) (pc' := 204) rfl ?_
    refine vtI (y := m 83 4) (up_ne (Or.inl (by decide))) ?_
    refine tt_iconst hV rfl (pc' := 205) rfl ?_
    obtain ⟨g15, h⟩ := h
    refine tt_icmp_ne hV rfl g15 (by decide) (pt := 251) (by decide) (pf := 208) rfl (fun hc => ?_) (fun hc => ?_)
    · replace h := h.1 hc
      exact h
    · replace h := h.2 (Decidable.not_not.mp hc)
      refine r_aload_n hV rfl rfl (pc' := 209) rfl ?_
      obtain ⟨v209, m209, h, hr⟩ := h
      refine tt_cv0I hV rfl rfl rfl (Wd_obj (hB _ _ rfl)) (Nat.le_of_ble_eq_true rfl) (Nat.le_of_ble_eq_true rfl) rfl hr (pc' := 212) rfl ?_
      refine tt_bipush hV rfl (by decide) (pc' := 214) rfl ?_
      obtain ⟨g16, h⟩ := h
      refine tt_icmp_eq hV rfl g16 (by decide) (pt := 222) (by decide) (pf := 217) rfl (fun hc => ?_) (fun hc => ?_)
      · replace h := h.1 hc
        refine r_aload_n hV rfl rfl (pc' := 223) rfl ?_
        refine r_dup hV rfl rfl (pc' := 224) rfl ?_
        refine tt_getI hV (tg := 0) (ci := 12) (kf := 3) rfl rfl (by decide) (hB _ _ rfl) rfl (by decide) (pc' := 227) rfl ?_
        refine tt_iconst hV rfl (pc' := 228) rfl ?_
        refine tt_iadd hV rfl (pc' := 229) rfl ?_
        refine tt_putI hV (tg := 0) (ci := 12) (kf := 3) rfl rfl (Or.inl rfl) (hB _ _ rfl) rfl (by decide) rfl (pc' := 232) rfl ?_
        refine r_aload_n hV rfl rfl (pc' := 233) rfl ?_
        refine tt_getR hV (tg := 6) (ci := 12) (kf := 11) rfl rfl (by decide) (hB _ _ rfl) rfl (by decide) (pc' := 236) rfl ?_
        refine r_iload_n hV rfl rfl (pc' := 237) rfl ?_
        refine r_aload_n hV rfl rfl (pc' := 238) rfl ?_
        refine tt_getR hV (tg := 6) (ci := 12) (kf := 8) rfl rfl (by decide) (hB _ _ rfl) rfl (by decide) (pc' := 241) rfl ?_
        refine r_aload_n hV rfl rfl (pc' := 242) rfl ?_
        refine tt_getI hV (tg := 0) (ci := 12) (kf := 14) rfl rfl (by decide) (hB _ _ rfl) rfl (by decide) (pc' := 245) rfl ?_
        refine vtI (y := m209 83 14) (up_ne (Or.inr (by decide))) ?_
        obtain ⟨g17, h⟩ := h
        refine q_iald hV rfl (hB _ _ rfl) (Nat.le_of_ble_eq_true rfl) rfl g17 (pc' := 246) rfl ?_
        refine vtI (y := m209 87 (m209 83 14)) (up_ne (Or.inl (by decide))) ?_
        refine q_iast hV rfl (hB _ _ rfl) (Nat.le_of_ble_eq_true rfl) rfl g13 (pc' := 247) rfl ?_
        refine r_aload_n hV rfl rfl (pc' := 248) rfl ?_
        obtain ⟨m248, h, hr⟩ := h
        refine tt_cv0U hV rfl rfl rfl (Wd_obj (hB _ _ rfl)) (Nat.le_of_ble_eq_true rfl) (Nat.le_of_ble_eq_true rfl) rfl hr (pc' := 251) rfl ?_
        exact h
      · replace h := h.2 hc
        refine r_aload_n hV rfl rfl (pc' := 218) rfl ?_
        obtain ⟨m218, h, hr⟩ := h
        refine tt_cv0U hV rfl rfl rfl (Wd_obj (hB _ _ rfl)) (Nat.le_of_ble_eq_true rfl) (Nat.le_of_ble_eq_true rfl) rfl hr (pc' := 221) rfl ?_
        exact ru0_ret (q := mI188) rfl rfl rfl h
theorem M_clause_251w {X : Cx} {d : Nat} {l1 : Int} {l2 : Int} {m : Mm} {Q : Mm → Prop} (hB : Bsh X.2.2.1) (h : (0 ≤ m 83 14 ∧ m 83 14 < 5) ∧ (0 ≤ l1 ∧ l1 < 700) ∧ Q (up (up m 91 l1 (m 87 (m 83 14))) 88 (m 83 14) (m 88 (m 83 14) + 1))) : M_clause_251 X (d + 1) l1 l2 m Q := by
  unfold M_clause_251
  have hV : Clo (gP X.1 X.2.1) (d + 1) 188 3 false (Ru0 (gP X.1 X.2.1) (d + 1) 188 X.2.2.1 X.2.2.2 Q) := Ru0_clo (q := mI188) rfl
  refine r_aload_n hV rfl rfl (pc' := 252) rfl ?_
  refine tt_getR hV (tg := 6) (ci := 12) (kf := 12) rfl rfl (by decide) (hB _ _ rfl) rfl (by decide) (pc' := 255) rfl ?_
  refine r_iload_n hV rfl rfl (pc' := 256) rfl ?_
  refine r_aload_n hV rfl rfl (pc' := 257) rfl ?_
  refine tt_getR hV (tg := 6) (ci := 12) (kf := 8) rfl rfl (by decide) (hB _ _ rfl) rfl (by decide) (pc' := 260) rfl ?_
  refine r_aload_n hV rfl rfl (pc' := 261) rfl ?_
  refine tt_getI hV (tg := 0) (ci := 12) (kf := 14) rfl rfl (by decide) (hB _ _ rfl) rfl (by decide) (pc' := 264) rfl ?_
  obtain ⟨g18, h⟩ := h
  refine q_iald hV rfl (hB _ _ rfl) (Nat.le_of_ble_eq_true rfl) rfl g18 (pc' := 265) rfl ?_
  obtain ⟨g19, h⟩ := h
  refine q_iast hV rfl (hB _ _ rfl) (Nat.le_of_ble_eq_true rfl) rfl g19 (pc' := 266) rfl ?_
  refine r_aload_n hV rfl rfl (pc' := 267) rfl ?_
  refine tt_getR hV (tg := 6) (ci := 12) (kf := 9) rfl rfl (by decide) (hB _ _ rfl) rfl (by decide) (pc' := 270) rfl ?_
  refine r_aload_n hV rfl rfl (pc' := 271) rfl ?_
  refine tt_getI hV (tg := 0) (ci := 12) (kf := 14) rfl rfl (by decide) (hB _ _ rfl) rfl (by decide) (pc' := 274) rfl ?_
  refine vtI (y := m 83 14) (up_ne (Or.inl (by decide))) ?_
  refine r_dup2 hV rfl rfl rfl (pc' := 275) rfl ?_
  refine q_iald hV rfl (hB _ _ rfl) (Nat.le_of_ble_eq_true rfl) rfl g18 (pc' := 276) rfl ?_
  refine vtI (y := m 88 (m 83 14)) (up_ne (Or.inl (by decide))) ?_
  refine tt_iconst hV rfl (pc' := 277) rfl ?_
  refine tt_iadd hV rfl (pc' := 278) rfl ?_
  refine q_iast hV rfl (hB _ _ rfl) (Nat.le_of_ble_eq_true rfl) rfl g18 (pc' := 279) rfl ?_
  exact ru0_ret (q := mI188) rfl rfl rfl h
theorem M_openw {X : Cx} {d : Nat} {x : Int} {m : Mm} {Q : Mm → Prop} (hB : Bsh X.2.2.1) (h : (0 ≤ x ∧ x < 5) ∧ Q (up (up (up (up (up (up m 83 14 x) 83 3 0) 83 4 (-1)) 83 5 0) 87 x 0) 88 x 0)) : M_open X d x m Q := by
  unfold M_open
  have hV : Clo (gP X.1 X.2.1) d 189 2 false (Ru0 (gP X.1 X.2.1) d 189 X.2.2.1 X.2.2.2 Q) := Ru0_clo (q := mI189) rfl
  refine r_aload_n hV rfl rfl (pc' := 1) rfl ?_
  refine r_iload_n hV rfl rfl (pc' := 2) rfl ?_
  refine tt_putI hV (tg := 0) (ci := 12) (kf := 14) rfl rfl (Or.inl rfl) (hB _ _ rfl) rfl (by decide) rfl (pc' := 5) rfl ?_
  refine r_aload_n hV rfl rfl (pc' := 6) rfl ?_
  refine tt_iconst hV rfl (pc' := 7) rfl ?_
  refine tt_putI hV (tg := 0) (ci := 12) (kf := 3) rfl rfl (Or.inl rfl) (hB _ _ rfl) rfl (by decide) rfl (pc' := 10) rfl ?_
  refine r_aload_n hV rfl rfl (pc' := 11) rfl ?_
  refine tt_iconst hV rfl (pc' := 12) rfl ?_
  refine tt_putI hV (tg := 0) (ci := 12) (kf := 4) rfl rfl (Or.inl rfl) (hB _ _ rfl) rfl (by decide) rfl (pc' := 15) rfl ?_
  refine r_aload_n hV rfl rfl (pc' := 16) rfl ?_
  refine tt_iconst hV rfl (pc' := 17) rfl ?_
  refine tt_putI hV (tg := 0) (ci := 12) (kf := 5) rfl rfl (Or.inl rfl) (hB _ _ rfl) rfl (by decide) rfl (pc' := 20) rfl ?_
  refine r_aload_n hV rfl rfl (pc' := 21) rfl ?_
  refine tt_getR hV (tg := 6) (ci := 12) (kf := 8) rfl rfl (by decide) (hB _ _ rfl) rfl (by decide) (pc' := 24) rfl ?_
  refine r_iload_n hV rfl rfl (pc' := 25) rfl ?_
  refine tt_iconst hV rfl (pc' := 26) rfl ?_
  obtain ⟨g1, h⟩ := h
  refine q_iast hV rfl (hB _ _ rfl) (Nat.le_of_ble_eq_true rfl) rfl g1 (pc' := 27) rfl ?_
  refine r_aload_n hV rfl rfl (pc' := 28) rfl ?_
  refine tt_getR hV (tg := 6) (ci := 12) (kf := 9) rfl rfl (by decide) (hB _ _ rfl) rfl (by decide) (pc' := 31) rfl ?_
  refine r_iload_n hV rfl rfl (pc' := 32) rfl ?_
  refine tt_iconst hV rfl (pc' := 33) rfl ?_
  refine q_iast hV rfl (hB _ _ rfl) (Nat.le_of_ble_eq_true rfl) rfl g1 (pc' := 34) rfl ?_
  exact ru0_ret (q := mI189) rfl rfl rfl h
theorem M_atEndw {X : Cx} {d : Nat} {m : Mm} {Q : Int → Mm → Prop} (hB : Bsh X.2.2.1) (h : (-2147483648 ≤ (m 83 4) ∧ (m 83 4) < 2147483648) ∧ (m 83 4 ≠ -1 → Q (m 83 4) m) ∧ (m 83 4 = -1 → M_look X d m (fun v9 m9 => (-2147483648 ≤ v9 ∧ v9 < 2147483648) ∧ (v9 = -1 → Q (m9 83 4) m9) ∧ (v9 ≠ -1 → M_bad X d m9 (fun m17 => Q (m17 83 4) m17))))) : M_atEnd X (d + 1) m Q := by
  unfold M_atEnd
  have hV : Clo (gP X.1 X.2.1) (d + 1) 190 1 false (Rq (gP X.1 X.2.1) (d + 1) 190 X.2.2.1 X.2.2.2 Q) := Rq_clo (q := mI190) rfl
  refine r_aload_n hV rfl rfl (pc' := 1) rfl ?_
  refine tt_getI hV (tg := 0) (ci := 12) (kf := 4) rfl rfl (by decide) (hB _ _ rfl) rfl (by decide) (pc' := 4) rfl ?_
  refine tt_iconst hV rfl (pc' := 5) rfl ?_
  obtain ⟨g1, h⟩ := h
  refine tt_icmp_ne hV rfl g1 (by decide) (pt := 20) (by decide) (pf := 8) rfl (fun hc => ?_) (fun hc => ?_)
  · replace h := h.1 hc
    refine r_aload_n hV rfl rfl (pc' := 21) rfl ?_
    refine tt_getI hV (tg := 0) (ci := 12) (kf := 4) rfl rfl (by decide) (hB _ _ rfl) rfl (by decide) (pc' := 24) rfl ?_
    exact rq_ret (q := mI190) rfl rfl rfl h
  · replace h := h.2 (Decidable.not_not.mp hc)
    refine r_aload_n hV rfl rfl (pc' := 9) rfl ?_
    obtain ⟨v9, m9, h, hr⟩ := h
    refine tt_cv0I hV rfl rfl rfl (Wd_obj (hB _ _ rfl)) (Nat.le_of_ble_eq_true rfl) (Nat.le_of_ble_eq_true rfl) rfl hr (pc' := 12) rfl ?_
    refine tt_iconst hV rfl (pc' := 13) rfl ?_
    obtain ⟨g2, h⟩ := h
    refine tt_icmp_eq hV rfl g2 (by decide) (pt := 20) (by decide) (pf := 16) rfl (fun hc => ?_) (fun hc => ?_)
    · replace h := h.1 hc
      refine r_aload_n hV rfl rfl (pc' := 21) rfl ?_
      refine tt_getI hV (tg := 0) (ci := 12) (kf := 4) rfl rfl (by decide) (hB _ _ rfl) rfl (by decide) (pc' := 24) rfl ?_
      exact rq_ret (q := mI190) rfl rfl rfl h
    · replace h := h.2 hc
      refine r_aload_n hV rfl rfl (pc' := 17) rfl ?_
      obtain ⟨m17, h, hr⟩ := h
      refine tt_cv0U hV rfl rfl rfl (Wd_obj (hB _ _ rfl)) (Nat.le_of_ble_eq_true rfl) (Nat.le_of_ble_eq_true rfl) rfl hr (pc' := 20) rfl ?_
      refine r_aload_n hV rfl rfl (pc' := 21) rfl ?_
      refine tt_getI hV (tg := 0) (ci := 12) (kf := 4) rfl rfl (by decide) (hB _ _ rfl) rfl (by decide) (pc' := 24) rfl ?_
      exact rq_ret (q := mI190) rfl rfl rfl h
theorem M_readLaww {X : Cx} {d : Nat} {x : Int} {m : Mm} {Q : Int → Mm → Prop} (hB : Bsh X.2.2.1) (h : M_open X d x m (fun m2 => M_clause X d m2 (fun m6 => M_readLaw_9 X (d + 1) x m6 Q))) : M_readLaw X (d + 1) x m Q := by
  unfold M_readLaw
  have hV : Clo (gP X.1 X.2.1) (d + 1) 191 2 false (Rq (gP X.1 X.2.1) (d + 1) 191 X.2.2.1 X.2.2.2 Q) := Rq_clo (q := mI191) rfl
  refine r_aload_n hV rfl rfl (pc' := 1) rfl ?_
  refine r_iload_n hV rfl rfl (pc' := 2) rfl ?_
  obtain ⟨m2, h, hr⟩ := h
  refine tt_cv1U hV rfl rfl rfl (Wd_obj (hB _ _ rfl)) (Nat.le_of_ble_eq_true rfl) (Nat.le_of_ble_eq_true rfl) rfl hr (pc' := 5) rfl ?_
  refine r_aload_n hV rfl rfl (pc' := 6) rfl ?_
  obtain ⟨m6, h, hr⟩ := h
  refine tt_cv0U hV rfl rfl rfl (Wd_obj (hB _ _ rfl)) (Nat.le_of_ble_eq_true rfl) (Nat.le_of_ble_eq_true rfl) rfl hr (pc' := 9) rfl ?_
  exact h
theorem M_readLaw_9w {X : Cx} {d : Nat} {x : Int} {m : Mm} {Q : Int → Mm → Prop} (hB : Bsh X.2.2.1) (h : (-2147483648 ≤ (m 83 4) ∧ (m 83 4) < 2147483648) ∧ (m 83 4 ≠ -1 → M_atEnd X d m (fun v44 m44 => Q v44 m44)) ∧ (m 83 4 = -1 → M_look X d m (fun v18 m18 => (-2147483648 ≤ v18 ∧ v18 < 2147483648) ∧ (v18 ≠ 59 → M_atEnd X d m18 (fun v44 m44 => Q v44 m44)) ∧ (v18 = 59 → M_clause X d (up m18 83 3 (m18 83 3 + 1)) (fun m37 => M_readLaw_9 X (d + 1) x m37 Q))))) : M_readLaw_9 X (d + 1) x m Q := by
  unfold M_readLaw_9
  have hV : Clo (gP X.1 X.2.1) (d + 1) 191 2 false (Rq (gP X.1 X.2.1) (d + 1) 191 X.2.2.1 X.2.2.2 Q) := Rq_clo (q := mI191) rfl
  refine r_aload_n hV rfl rfl (pc' := 10) rfl ?_
  refine tt_getI hV (tg := 0) (ci := 12) (kf := 4) rfl rfl (by decide) (hB _ _ rfl) rfl (by decide) (pc' := 13) rfl ?_
  refine tt_iconst hV rfl (pc' := 14) rfl ?_
  obtain ⟨g1, h⟩ := h
  refine tt_icmp_ne hV rfl g1 (by decide) (pt := 43) (by decide) (pf := 17) rfl (fun hc => ?_) (fun hc => ?_)
  · replace h := h.1 hc
    refine r_aload_n hV rfl rfl (pc' := 44) rfl ?_
    obtain ⟨v44, m44, h, hr⟩ := h
    refine tt_cv0I hV rfl rfl rfl (Wd_obj (hB _ _ rfl)) (Nat.le_of_ble_eq_true rfl) (Nat.le_of_ble_eq_true rfl) rfl hr (pc' := 47) rfl ?_
    exact rq_ret (q := mI191) rfl rfl rfl h
  · replace h := h.2 (Decidable.not_not.mp hc)
    refine r_aload_n hV rfl rfl (pc' := 18) rfl ?_
    obtain ⟨v18, m18, h, hr⟩ := h
    refine tt_cv0I hV rfl rfl rfl (Wd_obj (hB _ _ rfl)) (Nat.le_of_ble_eq_true rfl) (Nat.le_of_ble_eq_true rfl) rfl hr (pc' := 21) rfl ?_
    refine tt_bipush hV rfl (by decide) (pc' := 23) rfl ?_
    obtain ⟨g2, h⟩ := h
    refine tt_icmp_ne hV rfl g2 (by decide) (pt := 43) (by decide) (pf := 26) rfl (fun hc => ?_) (fun hc => ?_)
    · replace h := h.1 hc
      refine r_aload_n hV rfl rfl (pc' := 44) rfl ?_
      obtain ⟨v44, m44, h, hr⟩ := h
      refine tt_cv0I hV rfl rfl rfl (Wd_obj (hB _ _ rfl)) (Nat.le_of_ble_eq_true rfl) (Nat.le_of_ble_eq_true rfl) rfl hr (pc' := 47) rfl ?_
      exact rq_ret (q := mI191) rfl rfl rfl h
    · replace h := h.2 (Decidable.not_not.mp hc)
      refine r_aload_n hV rfl rfl (pc' := 27) rfl ?_
      refine r_dup hV rfl rfl (pc' := 28) rfl ?_
      refine tt_getI hV (tg := 0) (ci := 12) (kf := 3) rfl rfl (by decide) (hB _ _ rfl) rfl (by decide) (pc' := 31) rfl ?_
      refine tt_iconst hV rfl (pc' := 32) rfl ?_
      refine tt_iadd hV rfl (pc' := 33) rfl ?_
      refine tt_putI hV (tg := 0) (ci := 12) (kf := 3) rfl rfl (Or.inl rfl) (hB _ _ rfl) rfl (by decide) rfl (pc' := 36) rfl ?_
      refine r_aload_n hV rfl rfl (pc' := 37) rfl ?_
      obtain ⟨m37, h, hr⟩ := h
      refine tt_cv0U hV rfl rfl rfl (Wd_obj (hB _ _ rfl)) (Nat.le_of_ble_eq_true rfl) (Nat.le_of_ble_eq_true rfl) rfl hr (pc' := 40) rfl ?_
      refine r_goto hV rfl (pc' := 9) (by decide) ?_
      exact h
theorem M_boundedw {X : Cx} {d : Nat} {x : Int} {m : Mm} {Q : Int → Mm → Prop} (hB : Bsh X.2.2.1) (h : (-9223372036854775808 ≤ x ∧ x < 9223372036854775808) ∧ (-9223372036854775808 ≤ (min 1000000 x) ∧ (min 1000000 x) < 9223372036854775808) ∧ Q ((max (-1000000) (min 1000000 x))) m) : M_bounded X (d + 1) x m Q := by
  unfold M_bounded
  have hV : Clo (gP X.1 X.2.1) (d + 1) 192 2 false (Rq (gP X.1 X.2.1) (d + 1) 192 X.2.2.1 X.2.2.2 Q) := Rq_clo (q := mI192) rfl
  refine v_ldc2 hV (Int64.ofInt (-1000000)) rfl rfl rfl (pc' := 3) rfl ?_
  refine v_ldc2 hV (Int64.ofInt 1000000) rfl rfl rfl (pc' := 6) rfl ?_
  refine r_lload_n hV rfl rfl (pc' := 7) rfl ?_
  obtain ⟨g1, h⟩ := h
  refine q_lmin hV rfl rfl rfl (by decide) g1 (Nat.le_of_ble_eq_true rfl) (pc' := 10) rfl ?_
  obtain ⟨g2, h⟩ := h
  refine q_lmax hV rfl rfl rfl (by decide) g2 (Nat.le_of_ble_eq_true rfl) (pc' := 13) rfl ?_
  refine tt_l2i hV rfl (pc' := 14) rfl ?_
  exact rq_ret (q := mI192) rfl rfl rfl h
theorem M_workedw {X : Cx} {d : Nat} {x : Int} {y : Int} {z : Int} {m : Mm} {Q : Int → Mm → Prop} (hB : Bsh X.2.2.1) (h : (-2147483648 ≤ x ∧ x < 2147483648) ∧ (x = 2 → M_bounded X d (y + z) m (fun v55 m55 => Q v55 m55)) ∧ (x = 3 → M_bounded X d (y - z) m (fun v62 m62 => Q v62 m62)) ∧ (x = 4 → M_bounded X d (y * z) m (fun v69 m69 => Q v69 m69)) ∧ (x = 5 → (-9223372036854775808 ≤ z ∧ z < 9223372036854775808) ∧ ((if 0 < z then 1 else if z = 0 then 0 else -1) ≠ 0 → (¬ Int64.ofInt z = 0) ∧ M_bounded X d (jDv y z) m (fun v86 m86 => Q v86 m86)) ∧ ((if 0 < z then 1 else if z = 0 then 0 else -1) = 0 → Q 0 m)) ∧ (x = 6 → (-9223372036854775808 ≤ y ∧ y < 9223372036854775808) ∧ (-9223372036854775808 ≤ z ∧ z < 9223372036854775808) ∧ ((if z < y then 1 else if y = z then 0 else -1) ≠ 0 → Q 0 m) ∧ ((if z < y then 1 else if y = z then 0 else -1) = 0 → Q 1 m)) ∧ (x = 7 → (-9223372036854775808 ≤ y ∧ y < 9223372036854775808) ∧ (-9223372036854775808 ≤ z ∧ z < 9223372036854775808) ∧ (0 ≤ (if z < y then 1 else if y = z then 0 else -1) → Q 0 m) ∧ ((if z < y then 1 else if y = z then 0 else -1) < 0 → Q 1 m)) ∧ (x = 8 → (-9223372036854775808 ≤ y ∧ y < 9223372036854775808) ∧ (-9223372036854775808 ≤ z ∧ z < 9223372036854775808) ∧ ((if z < y then 1 else if y = z then 0 else -1) ≤ 0 → Q 0 m) ∧ (0 < (if z < y then 1 else if y = z then 0 else -1) → Q 1 m)) ∧ (x = 9 → (-9223372036854775808 ≤ y ∧ y < 9223372036854775808) ∧ ((if 0 < y then 1 else if y = 0 then 0 else -1) ≠ 0 → Q 1 m) ∧ ((if 0 < y then 1 else if y = 0 then 0 else -1) = 0 → (-9223372036854775808 ≤ z ∧ z < 9223372036854775808) ∧ ((if 0 < z then 1 else if z = 0 then 0 else -1) = 0 → Q 0 m) ∧ ((if 0 < z then 1 else if z = 0 then 0 else -1) ≠ 0 → Q 1 m))) ∧ (x = 10 → (-9223372036854775808 ≤ y ∧ y < 9223372036854775808) ∧ ((if 0 < y then 1 else if y = 0 then 0 else -1) = 0 → Q 0 m) ∧ ((if 0 < y then 1 else if y = 0 then 0 else -1) ≠ 0 → (-9223372036854775808 ≤ z ∧ z < 9223372036854775808) ∧ ((if 0 < z then 1 else if z = 0 then 0 else -1) = 0 → Q 0 m) ∧ ((if 0 < z then 1 else if z = 0 then 0 else -1) ≠ 0 → Q 1 m))) ∧ (x ≠ 2 ∧ x ≠ 3 ∧ x ≠ 4 ∧ x ≠ 5 ∧ x ≠ 6 ∧ x ≠ 7 ∧ x ≠ 8 ∧ x ≠ 9 ∧ x ≠ 10 → (-9223372036854775808 ≤ y ∧ y < 9223372036854775808) ∧ ((if 0 < y then 1 else if y = 0 then 0 else -1) ≠ 0 → Q 1 m) ∧ ((if 0 < y then 1 else if y = 0 then 0 else -1) = 0 → (-9223372036854775808 ≤ z ∧ z < 9223372036854775808) ∧ ((if 0 < z then 1 else if z = 0 then 0 else -1) = 0 → Q 0 m) ∧ ((if 0 < z then 1 else if z = 0 then 0 else -1) ≠ 0 → Q 1 m)))) : M_worked X (d + 1) x y z m Q := by
  unfold M_worked
  have hV : Clo (gP X.1 X.2.1) (d + 1) 193 5 false (Rq (gP X.1 X.2.1) (d + 1) 193 X.2.2.1 X.2.2.2 Q) := Rq_clo (q := mI193) rfl
  refine r_iload_n hV rfl rfl (pc' := 1) rfl ?_
  obtain ⟨g1, h⟩ := h
  by_cases hc : x = 2
  · replace h := h.1 hc
    refine r_sw hV (pc' := 52) rfl (by decide) (by rw [hc]; rfl) ?_
    refine r_lload_n hV rfl rfl (pc' := 53) rfl ?_
    refine r_lload_n hV rfl rfl (pc' := 54) rfl ?_
    refine tt_ladd hV rfl (pc' := 55) rfl ?_
    obtain ⟨v55, m55, h, hr⟩ := h
    refine tt_cs1I hV rfl rfl rfl (Nat.le_of_ble_eq_true rfl) (Nat.le_of_ble_eq_true rfl) rfl hr (pc' := 58) rfl ?_
    exact rq_ret (q := mI193) rfl rfl rfl h
  have hc2_0 := hc
  clear hc
  by_cases hc : x = 3
  · replace h := h.2.1 hc
    refine r_sw hV (pc' := 59) rfl (by decide) (by rw [hc]; rfl) ?_
    refine r_lload_n hV rfl rfl (pc' := 60) rfl ?_
    refine r_lload_n hV rfl rfl (pc' := 61) rfl ?_
    refine tt_lsub hV rfl (pc' := 62) rfl ?_
    obtain ⟨v62, m62, h, hr⟩ := h
    refine tt_cs1I hV rfl rfl rfl (Nat.le_of_ble_eq_true rfl) (Nat.le_of_ble_eq_true rfl) rfl hr (pc' := 65) rfl ?_
    exact rq_ret (q := mI193) rfl rfl rfl h
  have hc2_1 := hc
  clear hc
  by_cases hc : x = 4
  · replace h := h.2.2.1 hc
    refine r_sw hV (pc' := 66) rfl (by decide) (by rw [hc]; rfl) ?_
    refine r_lload_n hV rfl rfl (pc' := 67) rfl ?_
    refine r_lload_n hV rfl rfl (pc' := 68) rfl ?_
    refine tt_lmul hV rfl (pc' := 69) rfl ?_
    obtain ⟨v69, m69, h, hr⟩ := h
    refine tt_cs1I hV rfl rfl rfl (Nat.le_of_ble_eq_true rfl) (Nat.le_of_ble_eq_true rfl) rfl hr (pc' := 72) rfl ?_
    exact rq_ret (q := mI193) rfl rfl rfl h
  have hc2_2 := hc
  clear hc
  by_cases hc : x = 5
  · replace h := h.2.2.2.1 hc
    refine r_sw hV (pc' := 73) rfl (by decide) (by rw [hc]; rfl) ?_
    refine r_lload_n hV rfl rfl (pc' := 74) rfl ?_
    refine tt_lconst hV (z := 0) rfl (by decide) (pc' := 75) rfl ?_
    obtain ⟨g3, h⟩ := h
    refine tt_lcmp hV rfl g3 (by decide) (pc' := 76) rfl ?_
    refine tt_if_ne hV rfl (cmp3 _ _) (pt := 83) (by decide) (pf := 79) rfl (fun hc => ?_) (fun hc => ?_)
    · replace h := h.1 hc
      refine r_lload_n hV rfl rfl (pc' := 84) rfl ?_
      refine r_lload_n hV rfl rfl (pc' := 85) rfl ?_
      obtain ⟨g4, h⟩ := h
      refine tt_ldiv hV rfl g4 (pc' := 86) rfl ?_
      obtain ⟨v86, m86, h, hr⟩ := h
      refine tt_cs1I hV rfl rfl rfl (Nat.le_of_ble_eq_true rfl) (Nat.le_of_ble_eq_true rfl) rfl hr (pc' := 89) rfl ?_
      exact rq_ret (q := mI193) rfl rfl rfl h
    · replace h := h.2 (Decidable.not_not.mp hc)
      refine tt_iconst hV rfl (pc' := 80) rfl ?_
      refine r_goto hV rfl (pc' := 89) (by decide) ?_
      exact rq_ret (q := mI193) rfl rfl rfl h
  have hc2_3 := hc
  clear hc
  by_cases hc : x = 6
  · replace h := h.2.2.2.2.1 hc
    refine r_sw hV (pc' := 90) rfl (by decide) (by rw [hc]; rfl) ?_
    refine r_lload_n hV rfl rfl (pc' := 91) rfl ?_
    refine r_lload_n hV rfl rfl (pc' := 92) rfl ?_
    obtain ⟨g5, h⟩ := h
    obtain ⟨g6, h⟩ := h
    refine tt_lcmp hV rfl g5 g6 (pc' := 93) rfl ?_
    refine tt_if_ne hV rfl (cmp3 _ _) (pt := 100) (by decide) (pf := 96) rfl (fun hc => ?_) (fun hc => ?_)
    · replace h := h.1 hc
      refine tt_iconst hV rfl (pc' := 101) rfl ?_
      exact rq_ret (q := mI193) rfl rfl rfl h
    · replace h := h.2 (Decidable.not_not.mp hc)
      refine tt_iconst hV rfl (pc' := 97) rfl ?_
      refine r_goto hV rfl (pc' := 101) (by decide) ?_
      exact rq_ret (q := mI193) rfl rfl rfl h
  have hc2_4 := hc
  clear hc
  by_cases hc : x = 7
  · replace h := h.2.2.2.2.2.1 hc
    refine r_sw hV (pc' := 102) rfl (by decide) (by rw [hc]; rfl) ?_
    refine r_lload_n hV rfl rfl (pc' := 103) rfl ?_
    refine r_lload_n hV rfl rfl (pc' := 104) rfl ?_
    obtain ⟨g7, h⟩ := h
    obtain ⟨g8, h⟩ := h
    refine tt_lcmp hV rfl g7 g8 (pc' := 105) rfl ?_
    refine tt_if_ge hV rfl (cmp3 _ _) (pt := 112) (by decide) (pf := 108) rfl (fun hc => ?_) (fun hc => ?_)
    · replace h := h.1 hc
      refine tt_iconst hV rfl (pc' := 113) rfl ?_
      exact rq_ret (q := mI193) rfl rfl rfl h
    · replace h := h.2 (Int.not_le.mp hc)
      refine tt_iconst hV rfl (pc' := 109) rfl ?_
      refine r_goto hV rfl (pc' := 113) (by decide) ?_
      exact rq_ret (q := mI193) rfl rfl rfl h
  have hc2_5 := hc
  clear hc
  by_cases hc : x = 8
  · replace h := h.2.2.2.2.2.2.1 hc
    refine r_sw hV (pc' := 114) rfl (by decide) (by rw [hc]; rfl) ?_
    refine r_lload_n hV rfl rfl (pc' := 115) rfl ?_
    refine r_lload_n hV rfl rfl (pc' := 116) rfl ?_
    obtain ⟨g9, h⟩ := h
    obtain ⟨g10, h⟩ := h
    refine tt_lcmp hV rfl g9 g10 (pc' := 117) rfl ?_
    refine tt_if_le hV rfl (cmp3 _ _) (pt := 124) (by decide) (pf := 120) rfl (fun hc => ?_) (fun hc => ?_)
    · replace h := h.1 hc
      refine tt_iconst hV rfl (pc' := 125) rfl ?_
      exact rq_ret (q := mI193) rfl rfl rfl h
    · replace h := h.2 (Int.not_le.mp hc)
      refine tt_iconst hV rfl (pc' := 121) rfl ?_
      refine r_goto hV rfl (pc' := 125) (by decide) ?_
      exact rq_ret (q := mI193) rfl rfl rfl h
  have hc2_6 := hc
  clear hc
  by_cases hc : x = 9
  · replace h := h.2.2.2.2.2.2.2.1 hc
    refine r_sw hV (pc' := 144) rfl (by decide) (by rw [hc]; rfl) ?_
    refine r_lload_n hV rfl rfl (pc' := 145) rfl ?_
    refine tt_lconst hV (z := 0) rfl (by decide) (pc' := 146) rfl ?_
    obtain ⟨g11, h⟩ := h
    refine tt_lcmp hV rfl g11 (by decide) (pc' := 147) rfl ?_
    refine tt_if_ne hV rfl (cmp3 _ _) (pt := 156) (by decide) (pf := 150) rfl (fun hc => ?_) (fun hc => ?_)
    · replace h := h.1 hc
      refine tt_iconst hV rfl (pc' := 157) rfl ?_
      refine r_goto hV rfl (pc' := 161) (by decide) ?_
      exact rq_ret (q := mI193) rfl rfl rfl h
    · replace h := h.2 (Decidable.not_not.mp hc)
      refine r_lload_n hV rfl rfl (pc' := 151) rfl ?_
      refine tt_lconst hV (z := 0) rfl (by decide) (pc' := 152) rfl ?_
      obtain ⟨g12, h⟩ := h
      refine tt_lcmp hV rfl g12 (by decide) (pc' := 153) rfl ?_
      refine tt_if_eq hV rfl (cmp3 _ _) (pt := 160) (by decide) (pf := 156) rfl (fun hc => ?_) (fun hc => ?_)
      · replace h := h.1 hc
        refine tt_iconst hV rfl (pc' := 161) rfl ?_
        exact rq_ret (q := mI193) rfl rfl rfl h
      · replace h := h.2 hc
        refine tt_iconst hV rfl (pc' := 157) rfl ?_
        refine r_goto hV rfl (pc' := 161) (by decide) ?_
        exact rq_ret (q := mI193) rfl rfl rfl h
  have hc2_7 := hc
  clear hc
  by_cases hc : x = 10
  · replace h := h.2.2.2.2.2.2.2.2.1 hc
    refine r_sw hV (pc' := 126) rfl (by decide) (by rw [hc]; rfl) ?_
    refine r_lload_n hV rfl rfl (pc' := 127) rfl ?_
    refine tt_lconst hV (z := 0) rfl (by decide) (pc' := 128) rfl ?_
    obtain ⟨g13, h⟩ := h
    refine tt_lcmp hV rfl g13 (by decide) (pc' := 129) rfl ?_
    refine tt_if_eq hV rfl (cmp3 _ _) (pt := 142) (by decide) (pf := 132) rfl (fun hc => ?_) (fun hc => ?_)
    · replace h := h.1 hc
      refine tt_iconst hV rfl (pc' := 143) rfl ?_
      exact rq_ret (q := mI193) rfl rfl rfl h
    · replace h := h.2 hc
      refine r_lload_n hV rfl rfl (pc' := 133) rfl ?_
      refine tt_lconst hV (z := 0) rfl (by decide) (pc' := 134) rfl ?_
      obtain ⟨g14, h⟩ := h
      refine tt_lcmp hV rfl g14 (by decide) (pc' := 135) rfl ?_
      refine tt_if_eq hV rfl (cmp3 _ _) (pt := 142) (by decide) (pf := 138) rfl (fun hc => ?_) (fun hc => ?_)
      · replace h := h.1 hc
        refine tt_iconst hV rfl (pc' := 143) rfl ?_
        exact rq_ret (q := mI193) rfl rfl rfl h
      · replace h := h.2 hc
        refine tt_iconst hV rfl (pc' := 139) rfl ?_
        refine r_goto hV rfl (pc' := 143) (by decide) ?_
        exact rq_ret (q := mI193) rfl rfl rfl h
  have hc2_8 := hc
  clear hc
  replace h := h.2.2.2.2.2.2.2.2.2 ⟨hc2_0, hc2_1, hc2_2, hc2_3, hc2_4, hc2_5, hc2_6, hc2_7, hc2_8⟩
  refine r_sw hV (pc' := 144) rfl (by decide) ?_ ?_
  · exact sw_tab g1 (by clear h; omega) (by decide)
  refine r_lload_n hV rfl rfl (pc' := 145) rfl ?_
  refine tt_lconst hV (z := 0) rfl (by decide) (pc' := 146) rfl ?_
  obtain ⟨g15, h⟩ := h
  refine tt_lcmp hV rfl g15 (by decide) (pc' := 147) rfl ?_
  refine tt_if_ne hV rfl (cmp3 _ _) (pt := 156) (by decide) (pf := 150) rfl (fun hc => ?_) (fun hc => ?_)
  · replace h := h.1 hc
    refine tt_iconst hV rfl (pc' := 157) rfl ?_
    refine r_goto hV rfl (pc' := 161) (by decide) ?_
    exact rq_ret (q := mI193) rfl rfl rfl h
  · replace h := h.2 (Decidable.not_not.mp hc)
    refine r_lload_n hV rfl rfl (pc' := 151) rfl ?_
    refine tt_lconst hV (z := 0) rfl (by decide) (pc' := 152) rfl ?_
    obtain ⟨g16, h⟩ := h
    refine tt_lcmp hV rfl g16 (by decide) (pc' := 153) rfl ?_
    refine tt_if_eq hV rfl (cmp3 _ _) (pt := 160) (by decide) (pf := 156) rfl (fun hc => ?_) (fun hc => ?_)
    · replace h := h.1 hc
      refine tt_iconst hV rfl (pc' := 161) rfl ?_
      exact rq_ret (q := mI193) rfl rfl rfl h
    · replace h := h.2 hc
      refine tt_iconst hV rfl (pc' := 157) rfl ?_
      refine r_goto hV rfl (pc' := 161) (by decide) ?_
      exact rq_ret (q := mI193) rfl rfl rfl h
theorem M_workOutw {X : Cx} {d : Nat} {x : Int} {y : Int} {z : Int} {m : Mm} {Q : Int → Mm → Prop} (hB : Bsh X.2.2.1) (h : M_workOut_12 X (d + 1) x y z 0 (520 * x + y) m Q) : M_workOut X (d + 1) x y z m Q := by
  unfold M_workOut
  have hV : Clo (gP X.1 X.2.1) (d + 1) 194 6 false (Rq (gP X.1 X.2.1) (d + 1) 194 X.2.2.1 X.2.2.2 Q) := Rq_clo (q := mI194) rfl
  refine tt_iconst hV rfl (pc' := 1) rfl ?_
  refine tt_istore4 hV rfl rfl (pc' := 3) rfl ?_
  refine tt_sipush hV rfl (by decide) (pc' := 6) rfl ?_
  refine r_iload_n hV rfl rfl (pc' := 7) rfl ?_
  refine tt_imul hV rfl (pc' := 8) rfl ?_
  refine r_iload_n hV rfl rfl (pc' := 9) rfl ?_
  refine tt_iadd hV rfl (pc' := 10) rfl ?_
  refine tt_istore5 hV rfl rfl (pc' := 12) rfl ?_
  exact h
theorem M_workOut_12w {X : Cx} {d : Nat} {x : Int} {y : Int} {z : Int} {l4 : Int} {l5 : Int} {m : Mm} {Q : Int → Mm → Prop} (hB : Bsh X.2.2.1) (h : (-2147483648 ≤ l5 ∧ l5 < 2147483648) ∧ (-2147483648 ≤ (520 * x + z) ∧ (520 * x + z) < 2147483648) ∧ (520 * x + z ≤ l5 → Q (m 93 0) m) ∧ (l5 < 520 * x + z → (0 ≤ l5 ∧ l5 < 2600) ∧ (-2147483648 ≤ (m 85 l5) ∧ (m 85 l5) < 2147483648) ∧ (m 85 l5 = 0 → M_workOut_45 X (d + 1) x y z l4 l5 m Q) ∧ (m 85 l5 ≠ 0 → (m 85 l5 ≠ 1 → (m 85 l5 ≠ 9 → (0 ≤ l4 - 2 ∧ l4 - 2 < 80) ∧ (-2147483648 ≤ (m 93 (l4 - 2)) ∧ (m 93 (l4 - 2)) < 2147483648) ∧ (0 ≤ l4 - 1 ∧ l4 - 1 < 80) ∧ (-2147483648 ≤ (m 93 (l4 - 1)) ∧ (m 93 (l4 - 1)) < 2147483648) ∧ M_worked X d (m 85 l5) (m 93 (l4 - 2)) (m 93 (l4 - 1)) m (fun v161 m161 => M_workOut_12 X (d + 1) x y z (l4 - 1) (l5 + 1) (up m161 93 (l4 - 2) v161) Q)) ∧ (m 85 l5 = 9 → (0 ≤ l4 - 1 ∧ l4 - 1 < 80) ∧ M_workOut_12 X (d + 1) x y z l4 (l5 + 1) (up m 93 (l4 - 1) (-m 93 (l4 - 1) + 1)) Q)) ∧ (m 85 l5 = 1 → M_workOut_45 X (d + 1) x y z l4 l5 m Q)))) : M_workOut_12 X (d + 1) x y z l4 l5 m Q := by
  unfold M_workOut_12
  have hV : Clo (gP X.1 X.2.1) (d + 1) 194 6 false (Rq (gP X.1 X.2.1) (d + 1) 194 X.2.2.1 X.2.2.2 Q) := Rq_clo (q := mI194) rfl
  refine r_iload hV rfl rfl (pc' := 14) rfl ?_
  refine tt_sipush hV rfl (by decide) (pc' := 17) rfl ?_
  refine r_iload_n hV rfl rfl (pc' := 18) rfl ?_
  refine tt_imul hV rfl (pc' := 19) rfl ?_
  refine r_iload_n hV rfl rfl (pc' := 20) rfl ?_
  refine tt_iadd hV rfl (pc' := 21) rfl ?_
  obtain ⟨g1, h⟩ := h
  obtain ⟨g2, h⟩ := h
  refine tt_icmp_ge hV rfl g1 g2 (pt := 171) (by decide) (pf := 24) rfl (fun hc => ?_) (fun hc => ?_)
  · replace h := h.1 hc
    refine r_aload_n hV rfl rfl (pc' := 172) rfl ?_
    refine tt_getR hV (tg := 6) (ci := 12) (kf := 16) rfl rfl (by decide) (hB _ _ rfl) rfl (by decide) (pc' := 175) rfl ?_
    refine tt_iconst hV rfl (pc' := 176) rfl ?_
    refine q_iald hV rfl (hB _ _ rfl) (Nat.le_of_ble_eq_true rfl) rfl (by decide) (pc' := 177) rfl ?_
    exact rq_ret (q := mI194) rfl rfl rfl h
  · replace h := h.2 (Int.not_le.mp hc)
    refine r_aload_n hV rfl rfl (pc' := 25) rfl ?_
    refine tt_getR hV (tg := 6) (ci := 12) (kf := 6) rfl rfl (by decide) (hB _ _ rfl) rfl (by decide) (pc' := 28) rfl ?_
    refine r_iload hV rfl rfl (pc' := 30) rfl ?_
    obtain ⟨g3, h⟩ := h
    refine q_iald hV rfl (hB _ _ rfl) (Nat.le_of_ble_eq_true rfl) rfl g3 (pc' := 31) rfl ?_
    obtain ⟨g4, h⟩ := h
    refine tt_if_eq hV rfl g4 (pt := 45) (by decide) (pf := 34) rfl (fun hc => ?_) (fun hc => ?_)
    · replace h := h.1 hc
      exact h
    · replace h := h.2 hc
      refine r_aload_n hV rfl rfl (pc' := 35) rfl ?_
      refine tt_getR hV (tg := 6) (ci := 12) (kf := 6) rfl rfl (by decide) (hB _ _ rfl) rfl (by decide) (pc' := 38) rfl ?_
      refine r_iload hV rfl rfl (pc' := 40) rfl ?_
      refine q_iald hV rfl (hB _ _ rfl) (Nat.le_of_ble_eq_true rfl) rfl g3 (pc' := 41) rfl ?_
      refine tt_iconst hV rfl (pc' := 42) rfl ?_
      refine tt_icmp_ne hV rfl g4 (by decide) (pt := 90) (by decide) (pf := 45) rfl (fun hc => ?_) (fun hc => ?_)
      · replace h := h.1 hc
        refine r_aload_n hV rfl rfl (pc' := 91) rfl ?_
        refine tt_getR hV (tg := 6) (ci := 12) (kf := 6) rfl rfl (by decide) (hB _ _ rfl) rfl (by decide) (pc' := 94) rfl ?_
        refine r_iload hV rfl rfl (pc' := 96) rfl ?_
        refine q_iald hV rfl (hB _ _ rfl) (Nat.le_of_ble_eq_true rfl) rfl g3 (pc' := 97) rfl ?_
        refine tt_bipush hV rfl (by decide) (pc' := 99) rfl ?_
        refine tt_icmp_ne hV rfl g4 (by decide) (pt := 125) (by decide) (pf := 102) rfl (fun hc => ?_) (fun hc => ?_)
        · replace h := h.1 hc
          refine tz_iinc4 hV rfl rfl (y := l4 - 1) (by clear h; omega) (pc' := 128) rfl ?_
          refine r_aload_n hV rfl rfl (pc' := 129) rfl ?_
          refine tt_getR hV (tg := 6) (ci := 12) (kf := 16) rfl rfl (by decide) (hB _ _ rfl) rfl (by decide) (pc' := 132) rfl ?_
          refine r_iload hV rfl rfl (pc' := 134) rfl ?_
          refine tt_iconst hV rfl (pc' := 135) rfl ?_
          refine tt_isub hV rfl (pc' := 136) rfl ?_
          refine vtI (y := l4 - 2) (by clear h; omega) ?_
          refine r_aload_n hV rfl rfl (pc' := 137) rfl ?_
          refine tt_getR hV (tg := 6) (ci := 12) (kf := 6) rfl rfl (by decide) (hB _ _ rfl) rfl (by decide) (pc' := 140) rfl ?_
          refine r_iload hV rfl rfl (pc' := 142) rfl ?_
          refine q_iald hV rfl (hB _ _ rfl) (Nat.le_of_ble_eq_true rfl) rfl g3 (pc' := 143) rfl ?_
          refine r_aload_n hV rfl rfl (pc' := 144) rfl ?_
          refine tt_getR hV (tg := 6) (ci := 12) (kf := 16) rfl rfl (by decide) (hB _ _ rfl) rfl (by decide) (pc' := 147) rfl ?_
          refine r_iload hV rfl rfl (pc' := 149) rfl ?_
          refine tt_iconst hV rfl (pc' := 150) rfl ?_
          refine tt_isub hV rfl (pc' := 151) rfl ?_
          refine vtI (y := l4 - 2) (by clear h; omega) ?_
          obtain ⟨g5, h⟩ := h
          refine q_iald hV rfl (hB _ _ rfl) (Nat.le_of_ble_eq_true rfl) rfl g5 (pc' := 152) rfl ?_
          obtain ⟨g6, h⟩ := h
          refine tt_i2l hV rfl g6 (pc' := 153) rfl ?_
          refine r_aload_n hV rfl rfl (pc' := 154) rfl ?_
          refine tt_getR hV (tg := 6) (ci := 12) (kf := 16) rfl rfl (by decide) (hB _ _ rfl) rfl (by decide) (pc' := 157) rfl ?_
          refine r_iload hV rfl rfl (pc' := 159) rfl ?_
          obtain ⟨g7, h⟩ := h
          refine q_iald hV rfl (hB _ _ rfl) (Nat.le_of_ble_eq_true rfl) rfl g7 (pc' := 160) rfl ?_
          obtain ⟨g8, h⟩ := h
          refine tt_i2l hV rfl g8 (pc' := 161) rfl ?_
          obtain ⟨v161, m161, h, hr⟩ := h
          refine tt_cs3I hV rfl rfl rfl (Nat.le_of_ble_eq_true rfl) (Nat.le_of_ble_eq_true rfl) rfl hr (pc' := 164) rfl ?_
          refine q_iast hV rfl (hB _ _ rfl) (Nat.le_of_ble_eq_true rfl) rfl g5 (pc' := 165) rfl ?_
          refine tt_iinc5 hV rfl rfl (pc' := 168) rfl ?_
          refine r_goto hV rfl (pc' := 12) (by decide) ?_
          exact h
        · replace h := h.2 (Decidable.not_not.mp hc)
          refine r_aload_n hV rfl rfl (pc' := 103) rfl ?_
          refine tt_getR hV (tg := 6) (ci := 12) (kf := 16) rfl rfl (by decide) (hB _ _ rfl) rfl (by decide) (pc' := 106) rfl ?_
          refine r_iload hV rfl rfl (pc' := 108) rfl ?_
          refine tt_iconst hV rfl (pc' := 109) rfl ?_
          refine tt_isub hV rfl (pc' := 110) rfl ?_
          refine tt_iconst hV rfl (pc' := 111) rfl ?_
          refine r_aload_n hV rfl rfl (pc' := 112) rfl ?_
          refine tt_getR hV (tg := 6) (ci := 12) (kf := 16) rfl rfl (by decide) (hB _ _ rfl) rfl (by decide) (pc' := 115) rfl ?_
          refine r_iload hV rfl rfl (pc' := 117) rfl ?_
          refine tt_iconst hV rfl (pc' := 118) rfl ?_
          refine tt_isub hV rfl (pc' := 119) rfl ?_
          obtain ⟨g9, h⟩ := h
          refine q_iald hV rfl (hB _ _ rfl) (Nat.le_of_ble_eq_true rfl) rfl g9 (pc' := 120) rfl ?_
          refine tt_isub hV rfl (pc' := 121) rfl ?_
          refine vtI (y := -m 93 (l4 - 1) + 1) (by clear h; omega) ?_
          refine q_iast hV rfl (hB _ _ rfl) (Nat.le_of_ble_eq_true rfl) rfl g9 (pc' := 122) rfl ?_
          refine r_goto hV rfl (pc' := 165) (by decide) ?_
          refine tt_iinc5 hV rfl rfl (pc' := 168) rfl ?_
          refine r_goto hV rfl (pc' := 12) (by decide) ?_
          exact h
      · replace h := h.2 (Decidable.not_not.mp hc)
        exact h
theorem M_workOut_45w {X : Cx} {d : Nat} {x : Int} {y : Int} {z : Int} {l4 : Int} {l5 : Int} {m : Mm} {Q : Int → Mm → Prop} (hB : Bsh X.2.2.1) (h : (0 ≤ l5 ∧ l5 < 2600) ∧ (-2147483648 ≤ (m 85 l5) ∧ (m 85 l5) < 2147483648) ∧ (m 85 l5 ≠ 0 → (0 ≤ m 86 l5 ∧ m 86 l5 < 6) ∧ (0 ≤ l4 ∧ l4 < 80) ∧ M_workOut_12 X (d + 1) x y z (l4 + 1) (l5 + 1) (up m 93 l4 (m 92 (m 86 l5))) Q) ∧ (m 85 l5 = 0 → (0 ≤ l4 ∧ l4 < 80) ∧ M_workOut_12 X (d + 1) x y z (l4 + 1) (l5 + 1) (up m 93 l4 (m 86 l5)) Q)) : M_workOut_45 X (d + 1) x y z l4 l5 m Q := by
  unfold M_workOut_45
  have hV : Clo (gP X.1 X.2.1) (d + 1) 194 6 false (Rq (gP X.1 X.2.1) (d + 1) 194 X.2.2.1 X.2.2.2 Q) := Rq_clo (q := mI194) rfl
  refine r_aload_n hV rfl rfl (pc' := 46) rfl ?_
  refine tt_getR hV (tg := 6) (ci := 12) (kf := 16) rfl rfl (by decide) (hB _ _ rfl) rfl (by decide) (pc' := 49) rfl ?_
  refine r_iload hV rfl rfl (pc' := 51) rfl ?_
  refine r_aload_n hV rfl rfl (pc' := 52) rfl ?_
  refine tt_getR hV (tg := 6) (ci := 12) (kf := 6) rfl rfl (by decide) (hB _ _ rfl) rfl (by decide) (pc' := 55) rfl ?_
  refine r_iload hV rfl rfl (pc' := 57) rfl ?_
  obtain ⟨g10, h⟩ := h
  refine q_iald hV rfl (hB _ _ rfl) (Nat.le_of_ble_eq_true rfl) rfl g10 (pc' := 58) rfl ?_
  obtain ⟨g11, h⟩ := h
  refine tt_if_ne hV rfl g11 (pt := 71) (by decide) (pf := 61) rfl (fun hc => ?_) (fun hc => ?_)
  · replace h := h.1 hc
    refine r_aload_n hV rfl rfl (pc' := 72) rfl ?_
    refine tt_getR hV (tg := 6) (ci := 12) (kf := 15) rfl rfl (by decide) (hB _ _ rfl) rfl (by decide) (pc' := 75) rfl ?_
    refine r_aload_n hV rfl rfl (pc' := 76) rfl ?_
    refine tt_getR hV (tg := 6) (ci := 12) (kf := 7) rfl rfl (by decide) (hB _ _ rfl) rfl (by decide) (pc' := 79) rfl ?_
    refine r_iload hV rfl rfl (pc' := 81) rfl ?_
    refine q_iald hV rfl (hB _ _ rfl) (Nat.le_of_ble_eq_true rfl) rfl g10 (pc' := 82) rfl ?_
    obtain ⟨g12, h⟩ := h
    refine q_iald hV rfl (hB _ _ rfl) (Nat.le_of_ble_eq_true rfl) rfl g12 (pc' := 83) rfl ?_
    obtain ⟨g13, h⟩ := h
    refine q_iast hV rfl (hB _ _ rfl) (Nat.le_of_ble_eq_true rfl) rfl g13 (pc' := 84) rfl ?_
    refine tt_iinc4 hV rfl rfl (pc' := 87) rfl ?_
    refine r_goto hV rfl (pc' := 165) (by decide) ?_
    refine tt_iinc5 hV rfl rfl (pc' := 168) rfl ?_
    refine r_goto hV rfl (pc' := 12) (by decide) ?_
    exact h
  · replace h := h.2 (Decidable.not_not.mp hc)
    refine r_aload_n hV rfl rfl (pc' := 62) rfl ?_
    refine tt_getR hV (tg := 6) (ci := 12) (kf := 7) rfl rfl (by decide) (hB _ _ rfl) rfl (by decide) (pc' := 65) rfl ?_
    refine r_iload hV rfl rfl (pc' := 67) rfl ?_
    refine q_iald hV rfl (hB _ _ rfl) (Nat.le_of_ble_eq_true rfl) rfl g10 (pc' := 68) rfl ?_
    refine r_goto hV rfl (pc' := 83) (by decide) ?_
    obtain ⟨g14, h⟩ := h
    refine q_iast hV rfl (hB _ _ rfl) (Nat.le_of_ble_eq_true rfl) rfl g14 (pc' := 84) rfl ?_
    refine tt_iinc4 hV rfl rfl (pc' := 87) rfl ?_
    refine r_goto hV rfl (pc' := 165) (by decide) ?_
    refine tt_iinc5 hV rfl rfl (pc' := 168) rfl ?_
    refine r_goto hV rfl (pc' := 12) (by decide) ?_
    exact h
theorem M_worthOfw {X : Cx} {d : Nat} {x : Int} {m : Mm} {Q : Int → Mm → Prop} (hB : Bsh X.2.2.1) (h : M_worthOf_6 X (d + 1) x (140 * x) m Q) : M_worthOf X (d + 1) x m Q := by
  unfold M_worthOf
  have hV : Clo (gP X.1 X.2.1) (d + 1) 195 3 false (Rq (gP X.1 X.2.1) (d + 1) 195 X.2.2.1 X.2.2.2 Q) := Rq_clo (q := mI195) rfl
  refine tt_sipush hV rfl (by decide) (pc' := 3) rfl ?_
  refine r_iload_n hV rfl rfl (pc' := 4) rfl ?_
  refine tt_imul hV rfl (pc' := 5) rfl ?_
  refine tt_istore2 hV rfl rfl (pc' := 6) rfl ?_
  exact h
theorem M_worthOf_6w {X : Cx} {d : Nat} {x : Int} {l2 : Int} {m : Mm} {Q : Int → Mm → Prop} (hB : Bsh X.2.2.1) (h : (0 ≤ x ∧ x < 5) ∧ (-2147483648 ≤ l2 ∧ l2 < 2147483648) ∧ (-2147483648 ≤ (140 * x + m 88 x) ∧ (140 * x + m 88 x) < 2147483648) ∧ (140 * x + m 88 x ≤ l2 → Q 0 m) ∧ (l2 < 140 * x + m 88 x → (0 ≤ l2 ∧ l2 < 700) ∧ (-2147483648 ≤ (m 89 l2) ∧ (m 89 l2) < 2147483648) ∧ (-2147483648 ≤ (m 90 l2) ∧ (m 90 l2) < 2147483648) ∧ (m 89 l2 = m 90 l2 → M_worthOf_57 X (d + 1) x l2 m Q) ∧ (m 89 l2 ≠ m 90 l2 → M_workOut X d x (m 89 l2) (m 90 l2) m (fun v51 m51 => (-2147483648 ≤ v51 ∧ v51 < 2147483648) ∧ (v51 = 0 → M_worthOf_6 X (d + 1) x (l2 + 1) m51 Q) ∧ (v51 ≠ 0 → M_worthOf_57 X (d + 1) x l2 m51 Q))))) : M_worthOf_6 X (d + 1) x l2 m Q := by
  unfold M_worthOf_6
  have hV : Clo (gP X.1 X.2.1) (d + 1) 195 3 false (Rq (gP X.1 X.2.1) (d + 1) 195 X.2.2.1 X.2.2.2 Q) := Rq_clo (q := mI195) rfl
  refine r_iload_n hV rfl rfl (pc' := 7) rfl ?_
  refine tt_sipush hV rfl (by decide) (pc' := 10) rfl ?_
  refine r_iload_n hV rfl rfl (pc' := 11) rfl ?_
  refine tt_imul hV rfl (pc' := 12) rfl ?_
  refine r_aload_n hV rfl rfl (pc' := 13) rfl ?_
  refine tt_getR hV (tg := 6) (ci := 12) (kf := 9) rfl rfl (by decide) (hB _ _ rfl) rfl (by decide) (pc' := 16) rfl ?_
  refine r_iload_n hV rfl rfl (pc' := 17) rfl ?_
  obtain ⟨g1, h⟩ := h
  refine q_iald hV rfl (hB _ _ rfl) (Nat.le_of_ble_eq_true rfl) rfl g1 (pc' := 18) rfl ?_
  refine tt_iadd hV rfl (pc' := 19) rfl ?_
  obtain ⟨g2, h⟩ := h
  obtain ⟨g3, h⟩ := h
  refine tt_icmp_ge hV rfl g2 g3 (pt := 81) (by decide) (pf := 22) rfl (fun hc => ?_) (fun hc => ?_)
  · replace h := h.1 hc
    refine tt_iconst hV rfl (pc' := 82) rfl ?_
    exact rq_ret (q := mI195) rfl rfl rfl h
  · replace h := h.2 (Int.not_le.mp hc)
    refine r_aload_n hV rfl rfl (pc' := 23) rfl ?_
    refine tt_getR hV (tg := 6) (ci := 12) (kf := 10) rfl rfl (by decide) (hB _ _ rfl) rfl (by decide) (pc' := 26) rfl ?_
    refine r_iload_n hV rfl rfl (pc' := 27) rfl ?_
    obtain ⟨g4, h⟩ := h
    refine q_iald hV rfl (hB _ _ rfl) (Nat.le_of_ble_eq_true rfl) rfl g4 (pc' := 28) rfl ?_
    refine r_aload_n hV rfl rfl (pc' := 29) rfl ?_
    refine tt_getR hV (tg := 6) (ci := 12) (kf := 11) rfl rfl (by decide) (hB _ _ rfl) rfl (by decide) (pc' := 32) rfl ?_
    refine r_iload_n hV rfl rfl (pc' := 33) rfl ?_
    refine q_iald hV rfl (hB _ _ rfl) (Nat.le_of_ble_eq_true rfl) rfl g4 (pc' := 34) rfl ?_
    obtain ⟨g5, h⟩ := h
    obtain ⟨g6, h⟩ := h
    refine tt_icmp_eq hV rfl g5 g6 (pt := 57) (by decide) (pf := 37) rfl (fun hc => ?_) (fun hc => ?_)
    · replace h := h.1 hc
      exact h
    · replace h := h.2 hc
      refine r_aload_n hV rfl rfl (pc' := 38) rfl ?_
      refine r_iload_n hV rfl rfl (pc' := 39) rfl ?_
      refine r_aload_n hV rfl rfl (pc' := 40) rfl ?_
      refine tt_getR hV (tg := 6) (ci := 12) (kf := 10) rfl rfl (by decide) (hB _ _ rfl) rfl (by decide) (pc' := 43) rfl ?_
      refine r_iload_n hV rfl rfl (pc' := 44) rfl ?_
      refine q_iald hV rfl (hB _ _ rfl) (Nat.le_of_ble_eq_true rfl) rfl g4 (pc' := 45) rfl ?_
      refine r_aload_n hV rfl rfl (pc' := 46) rfl ?_
      refine tt_getR hV (tg := 6) (ci := 12) (kf := 11) rfl rfl (by decide) (hB _ _ rfl) rfl (by decide) (pc' := 49) rfl ?_
      refine r_iload_n hV rfl rfl (pc' := 50) rfl ?_
      refine q_iald hV rfl (hB _ _ rfl) (Nat.le_of_ble_eq_true rfl) rfl g4 (pc' := 51) rfl ?_
      obtain ⟨v51, m51, h, hr⟩ := h
      refine tt_cv3I hV rfl rfl rfl (Wd_obj (hB _ _ rfl)) (Nat.le_of_ble_eq_true rfl) (Nat.le_of_ble_eq_true rfl) rfl hr (pc' := 54) rfl ?_
      obtain ⟨g7, h⟩ := h
      refine tt_if_eq hV rfl g7 (pt := 75) (by decide) (pf := 57) rfl (fun hc => ?_) (fun hc => ?_)
      · replace h := h.1 hc
        refine tt_iinc2 hV rfl rfl (pc' := 78) rfl ?_
        refine r_goto hV rfl (pc' := 6) (by decide) ?_
        exact h
      · replace h := h.2 hc
        exact h
theorem M_worthOf_57w {X : Cx} {d : Nat} {x : Int} {l2 : Int} {m : Mm} {Q : Int → Mm → Prop} (hB : Bsh X.2.2.1) (h : (0 ≤ l2 ∧ l2 < 700) ∧ M_workOut X d x (m 90 l2) (m 91 l2) m (fun v71 m71 => Q v71 m71)) : M_worthOf_57 X (d + 1) x l2 m Q := by
  unfold M_worthOf_57
  have hV : Clo (gP X.1 X.2.1) (d + 1) 195 3 false (Rq (gP X.1 X.2.1) (d + 1) 195 X.2.2.1 X.2.2.2 Q) := Rq_clo (q := mI195) rfl
  refine r_aload_n hV rfl rfl (pc' := 58) rfl ?_
  refine r_iload_n hV rfl rfl (pc' := 59) rfl ?_
  refine r_aload_n hV rfl rfl (pc' := 60) rfl ?_
  refine tt_getR hV (tg := 6) (ci := 12) (kf := 11) rfl rfl (by decide) (hB _ _ rfl) rfl (by decide) (pc' := 63) rfl ?_
  refine r_iload_n hV rfl rfl (pc' := 64) rfl ?_
  obtain ⟨g8, h⟩ := h
  refine q_iald hV rfl (hB _ _ rfl) (Nat.le_of_ble_eq_true rfl) rfl g8 (pc' := 65) rfl ?_
  refine r_aload_n hV rfl rfl (pc' := 66) rfl ?_
  refine tt_getR hV (tg := 6) (ci := 12) (kf := 12) rfl rfl (by decide) (hB _ _ rfl) rfl (by decide) (pc' := 69) rfl ?_
  refine r_iload_n hV rfl rfl (pc' := 70) rfl ?_
  refine q_iald hV rfl (hB _ _ rfl) (Nat.le_of_ble_eq_true rfl) rfl g8 (pc' := 71) rfl ?_
  obtain ⟨v71, m71, h, hr⟩ := h
  refine tt_cv3I hV rfl rfl rfl (Wd_obj (hB _ _ rfl)) (Nat.le_of_ble_eq_true rfl) (Nat.le_of_ble_eq_true rfl) rfl hr (pc' := 74) rfl ?_
  exact rq_ret (q := mI195) rfl rfl rfl h
theorem M_numberw {X : Cx} {d : Nat} {x : Int} {y : Int} {m : Mm} {Q : Int → Mm → Prop} (hB : Bsh X.2.2.1) (h : M_look X d m (fun v1 m1 => M_isDigit X d v1 m1 (fun v4 m4 => (-2147483648 ≤ v4 ∧ v4 < 2147483648) ∧ (v4 ≠ 0 → M_here X d m4 (fun v17 m17 => M_here X d (up m17 83 3 (m17 83 3 + 1)) (fun v35 m35 => M_isDigit X d v35 m35 (fun v38 m38 => (-2147483648 ≤ v38 ∧ v38 < 2147483648) ∧ (v38 = 0 → M_number_67 X (d + 1) x y (v17 - 48) m38 Q) ∧ (v38 ≠ 0 → M_here X d m38 (fun v49 m49 => M_number_67 X (d + 1) x y (10 * v17 + v49 - 528) (up m49 83 3 (m49 83 3 + 1)) Q)))))) ∧ (v4 = 0 → M_bad X d m4 (fun m11 => Q x m11))))) : M_number X (d + 1) x y m Q := by
  unfold M_number
  have hV : Clo (gP X.1 X.2.1) (d + 1) 196 4 false (Rq (gP X.1 X.2.1) (d + 1) 196 X.2.2.1 X.2.2.2 Q) := Rq_clo (q := mI196) rfl
  refine r_aload_n hV rfl rfl (pc' := 1) rfl ?_
  obtain ⟨v1, m1, h, hr⟩ := h
  refine tt_cv0I hV rfl rfl rfl (Wd_obj (hB _ _ rfl)) (Nat.le_of_ble_eq_true rfl) (Nat.le_of_ble_eq_true rfl) rfl hr (pc' := 4) rfl ?_
  obtain ⟨v4, m4, h, hr⟩ := h
  refine tt_cs1I hV rfl rfl rfl (Nat.le_of_ble_eq_true rfl) (Nat.le_of_ble_eq_true rfl) rfl hr (pc' := 7) rfl ?_
  obtain ⟨g1, h⟩ := h
  refine tt_if_ne hV rfl g1 (pt := 16) (by decide) (pf := 10) rfl (fun hc => ?_) (fun hc => ?_)
  · replace h := h.1 hc
    refine r_aload_n hV rfl rfl (pc' := 17) rfl ?_
    obtain ⟨v17, m17, h, hr⟩ := h
    refine tt_cv0I hV rfl rfl rfl (Wd_obj (hB _ _ rfl)) (Nat.le_of_ble_eq_true rfl) (Nat.le_of_ble_eq_true rfl) rfl hr (pc' := 20) rfl ?_
    refine tt_bipush hV rfl (by decide) (pc' := 22) rfl ?_
    refine tt_isub hV rfl (pc' := 23) rfl ?_
    refine tt_istore3 hV rfl rfl (pc' := 24) rfl ?_
    refine r_aload_n hV rfl rfl (pc' := 25) rfl ?_
    refine r_dup hV rfl rfl (pc' := 26) rfl ?_
    refine tt_getI hV (tg := 0) (ci := 12) (kf := 3) rfl rfl (by decide) (hB _ _ rfl) rfl (by decide) (pc' := 29) rfl ?_
    refine tt_iconst hV rfl (pc' := 30) rfl ?_
    refine tt_iadd hV rfl (pc' := 31) rfl ?_
    refine tt_putI hV (tg := 0) (ci := 12) (kf := 3) rfl rfl (Or.inl rfl) (hB _ _ rfl) rfl (by decide) rfl (pc' := 34) rfl ?_
    refine r_aload_n hV rfl rfl (pc' := 35) rfl ?_
    obtain ⟨v35, m35, h, hr⟩ := h
    refine tt_cv0I hV rfl rfl rfl (Wd_obj (hB _ _ rfl)) (Nat.le_of_ble_eq_true rfl) (Nat.le_of_ble_eq_true rfl) rfl hr (pc' := 38) rfl ?_
    obtain ⟨v38, m38, h, hr⟩ := h
    refine tt_cs1I hV rfl rfl rfl (Nat.le_of_ble_eq_true rfl) (Nat.le_of_ble_eq_true rfl) rfl hr (pc' := 41) rfl ?_
    obtain ⟨g2, h⟩ := h
    refine tt_if_eq hV rfl g2 (pt := 67) (by decide) (pf := 44) rfl (fun hc => ?_) (fun hc => ?_)
    · replace h := h.1 hc
      exact h
    · replace h := h.2 hc
      refine tt_bipush hV rfl (by decide) (pc' := 46) rfl ?_
      refine r_iload_n hV rfl rfl (pc' := 47) rfl ?_
      refine tt_imul hV rfl (pc' := 48) rfl ?_
      refine vtI (y := 10 * v17 - 480) (by clear h; omega) ?_
      refine r_aload_n hV rfl rfl (pc' := 49) rfl ?_
      obtain ⟨v49, m49, h, hr⟩ := h
      refine tt_cv0I hV rfl rfl rfl (Wd_obj (hB _ _ rfl)) (Nat.le_of_ble_eq_true rfl) (Nat.le_of_ble_eq_true rfl) rfl hr (pc' := 52) rfl ?_
      refine tt_iadd hV rfl (pc' := 53) rfl ?_
      refine vtI (y := 10 * v17 + v49 - 480) (by clear h; omega) ?_
      refine tt_bipush hV rfl (by decide) (pc' := 55) rfl ?_
      refine tt_isub hV rfl (pc' := 56) rfl ?_
      refine vtI (y := 10 * v17 + v49 - 528) (by clear h; omega) ?_
      refine tt_istore3 hV rfl rfl (pc' := 57) rfl ?_
      refine r_aload_n hV rfl rfl (pc' := 58) rfl ?_
      refine r_dup hV rfl rfl (pc' := 59) rfl ?_
      refine tt_getI hV (tg := 0) (ci := 12) (kf := 3) rfl rfl (by decide) (hB _ _ rfl) rfl (by decide) (pc' := 62) rfl ?_
      refine tt_iconst hV rfl (pc' := 63) rfl ?_
      refine tt_iadd hV rfl (pc' := 64) rfl ?_
      refine tt_putI hV (tg := 0) (ci := 12) (kf := 3) rfl rfl (Or.inl rfl) (hB _ _ rfl) rfl (by decide) rfl (pc' := 67) rfl ?_
      exact h
  · replace h := h.2 (Decidable.not_not.mp hc)
    refine r_aload_n hV rfl rfl (pc' := 11) rfl ?_
    obtain ⟨m11, h, hr⟩ := h
    refine tt_cv0U hV rfl rfl rfl (Wd_obj (hB _ _ rfl)) (Nat.le_of_ble_eq_true rfl) (Nat.le_of_ble_eq_true rfl) rfl hr (pc' := 14) rfl ?_
    refine r_iload_n hV rfl rfl (pc' := 15) rfl ?_
    exact rq_ret (q := mI196) rfl rfl rfl h
theorem M_number_67w {X : Cx} {d : Nat} {x : Int} {y : Int} {l3 : Int} {m : Mm} {Q : Int → Mm → Prop} (hB : Bsh X.2.2.1) (h : M_here X d m (fun v68 m68 => M_isDigit X d v68 m68 (fun v71 m71 => (-2147483648 ≤ v71 ∧ v71 < 2147483648) ∧ (v71 = 0 → M_in X d l3 x y m71 (fun v87 m87 => (-2147483648 ≤ v87 ∧ v87 < 2147483648) ∧ (v87 ≠ 0 → Q l3 m87) ∧ (v87 = 0 → M_bad X d (up m87 83 3 (m87 83 3 - 1)) (fun m104 => Q l3 m104)))) ∧ (v71 ≠ 0 → M_bad X d m71 (fun m78 => Q l3 m78))))) : M_number_67 X (d + 1) x y l3 m Q := by
  unfold M_number_67
  have hV : Clo (gP X.1 X.2.1) (d + 1) 196 4 false (Rq (gP X.1 X.2.1) (d + 1) 196 X.2.2.1 X.2.2.2 Q) := Rq_clo (q := mI196) rfl
  refine r_aload_n hV rfl rfl (pc' := 68) rfl ?_
  obtain ⟨v68, m68, h, hr⟩ := h
  refine tt_cv0I hV rfl rfl rfl (Wd_obj (hB _ _ rfl)) (Nat.le_of_ble_eq_true rfl) (Nat.le_of_ble_eq_true rfl) rfl hr (pc' := 71) rfl ?_
  obtain ⟨v71, m71, h, hr⟩ := h
  refine tt_cs1I hV rfl rfl rfl (Nat.le_of_ble_eq_true rfl) (Nat.le_of_ble_eq_true rfl) rfl hr (pc' := 74) rfl ?_
  obtain ⟨g3, h⟩ := h
  refine tt_if_eq hV rfl g3 (pt := 84) (by decide) (pf := 77) rfl (fun hc => ?_) (fun hc => ?_)
  · replace h := h.1 hc
    refine r_iload_n hV rfl rfl (pc' := 85) rfl ?_
    refine r_iload_n hV rfl rfl (pc' := 86) rfl ?_
    refine r_iload_n hV rfl rfl (pc' := 87) rfl ?_
    obtain ⟨v87, m87, h, hr⟩ := h
    refine tt_cs3I hV rfl rfl rfl (Nat.le_of_ble_eq_true rfl) (Nat.le_of_ble_eq_true rfl) rfl hr (pc' := 90) rfl ?_
    obtain ⟨g4, h⟩ := h
    refine tt_if_ne hV rfl g4 (pt := 107) (by decide) (pf := 93) rfl (fun hc => ?_) (fun hc => ?_)
    · replace h := h.1 hc
      refine r_iload_n hV rfl rfl (pc' := 108) rfl ?_
      exact rq_ret (q := mI196) rfl rfl rfl h
    · replace h := h.2 (Decidable.not_not.mp hc)
      refine r_aload_n hV rfl rfl (pc' := 94) rfl ?_
      refine r_dup hV rfl rfl (pc' := 95) rfl ?_
      refine tt_getI hV (tg := 0) (ci := 12) (kf := 3) rfl rfl (by decide) (hB _ _ rfl) rfl (by decide) (pc' := 98) rfl ?_
      refine tt_iconst hV rfl (pc' := 99) rfl ?_
      refine tt_isub hV rfl (pc' := 100) rfl ?_
      refine tt_putI hV (tg := 0) (ci := 12) (kf := 3) rfl rfl (Or.inl rfl) (hB _ _ rfl) rfl (by decide) rfl (pc' := 103) rfl ?_
      refine r_aload_n hV rfl rfl (pc' := 104) rfl ?_
      obtain ⟨m104, h, hr⟩ := h
      refine tt_cv0U hV rfl rfl rfl (Wd_obj (hB _ _ rfl)) (Nat.le_of_ble_eq_true rfl) (Nat.le_of_ble_eq_true rfl) rfl hr (pc' := 107) rfl ?_
      refine r_iload_n hV rfl rfl (pc' := 108) rfl ?_
      exact rq_ret (q := mI196) rfl rfl rfl h
  · replace h := h.2 hc
    refine r_aload_n hV rfl rfl (pc' := 78) rfl ?_
    obtain ⟨m78, h, hr⟩ := h
    refine tt_cv0U hV rfl rfl rfl (Wd_obj (hB _ _ rfl)) (Nat.le_of_ble_eq_true rfl) (Nat.le_of_ble_eq_true rfl) rfl hr (pc' := 81) rfl ?_
    refine r_goto hV rfl (pc' := 107) (by decide) ?_
    refine r_iload_n hV rfl rfl (pc' := 108) rfl ?_
    exact rq_ret (q := mI196) rfl rfl rfl h
