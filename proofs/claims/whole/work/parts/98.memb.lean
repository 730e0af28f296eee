/-! ===== member ===== -/
section Memb3
variable {X : Cx} {d : Nat} {m : Mm} {A : Ab} {t : Int} {Q : Int → Mm → Prop}
theorem mw_u0 (h : MW m A) {v : Int} : MW (up m 83 0 v) A := by
  obtain ⟨a1, a2, a3, a4, a5, a6, a7, a8, a9⟩ := h
  have f : ∀ a, a ≠ 83 → up m 83 0 v a = m a := fun a ha => up_off ha
  have k : ∀ j, j ≠ 0 → up m 83 0 v 83 j = m 83 j := fun j hj => up_ne (Or.inr hj)
  unfold MW
  rw [k 2 (by decide), k 33 (by decide), k 48 (by decide), f 84 (by decide), f 100 (by decide), f 102 (by decide), f 107 (by decide), f 108 (by decide), f 109 (by decide)]
  refine ⟨a1, ?_, a3, a4.cg (k 13 (by decide)) (k 32 (by decide)) (fun a x y => f a (by omega)), ?_, ?_, a7, a8, a9⟩
  · unfold kM at a2 ⊢
    rw [f 98 (by decide), f 99 (by decide), k 27 (by decide), k 28 (by decide), k 29 (by decide)]
    exact a2
  · unfold MR at a5 ⊢
    rw [k 36 (by decide), f 101 (by decide), f 103 (by decide)]
    exact a5
  · unfold MIm at a6 ⊢
    rw [k 52 (by decide), f 112 (by decide)]
    exact a6
/-- what a member's called call answers -/
def mbF (A : Ab) (x y : Int) : Int := if y = 0 then abB A (4 * x) else if y = 1 then abQ A x else if y = 2 then abQ A (6 + x) else if y = 3 then abB A (4 * x + 3) else if y = 4 then abQ A (12 + x) else if y = 5 then 1 - bit (abQ A 18) x else pushA (kNm (abK A)) (wtB (abB A)) (abP A) (abQ A) x
theorem op_member (hH : HLaw) (hB : Bsh X.2.2.1) (hI : InvA X m A t) {x y : Int} (hx : 0 ≤ x ∧ x < kNm (abK A)) (hy : 0 ≤ y ∧ y ≤ 6) : V_member X (d + 20) x y m (fun v m1 => M_member X (d + 20) x y m1 (fun v' m2 => v' = v ∧ m2 83 0 = 0 ∧ CW X m2 A (t + 1) ∧ MW m2 A)) := by
  have hn := hI.n
  have hx3 : R3 x := by unfold R3; omega
  have hy3 : R3 y := by unfold R3; omega
  obtain ⟨c, hc⟩ := hI.1.ci hH hB hI.2.2
  obtain ⟨v1, v2, v3, v4, v5⟩ := hc.2.2.2.2.2 (by omega)
  have h4 := hc.2.2.2.1
  obtain ⟨s1, s2, s3, s4⟩ := v4.1 x hx.1 hx.2
  have hbr := bit_r (abQ A 18) x
  have hQ3 := v3
  have hbx := v2 x hx.1 hx.2
  have M : ∀ m1, MW m1 A → CW X m1 A (t + 1) → M_member X (d + 20) x y m1 (fun v' m2 => v' = mbF A x y ∧ m2 83 0 = 0 ∧ CW X m2 A (t + 1) ∧ MW m2 A) := by
    intro m1 hM hC
    have e28 := hM.n
    have e101 := hM.q
    have e100 : m1 100 = abB A := hM.2.2.1
    have hM0 := mw_u0 hM (v := 0)
    have hC0 : CW X (up m1 83 0 0) A (t + 1) := hC.lo (fun a ha => up_off (by omega))
    have e0 : up m1 83 0 0 83 0 = 0 := up_same _ _ _ _
    have o101 : up m1 83 0 0 101 = abQ A := by rw [up_off (by decide)]; exact e101
    have o100 : up m1 83 0 0 100 = abB A := by rw [up_off (by decide)]; exact e100
    refine M_memberw hB (M_isMember_c hB (by omega) hx3 (fun z1 z2 => q1e (M_in_c hy3 (by decide) (by decide) (fun z3 z4 => q1e ⟨hy3, fun z => ⟨by omega, ?_, e0, hC0, hM0⟩, fun z => ⟨by omega, ?_, e0, hC0, hM0⟩, fun z => M_of_c hB (by omega) ⟨?_, e0, hC0, hM0⟩, fun z => ⟨by omega, ?_, e0, hC0, hM0⟩, fun z => M_isOn_c hB (fun z5 => q1e ⟨?_, e0, hC0, hM0⟩) (fun z5 => q0e ⟨?_, e0, hC0, hM0⟩), fun z => ?_, fun z => M_of_c hB (by omega) ⟨?_, e0, hC0, hM0⟩⟩) (fun z => by omega))) (fun z => by omega))
    · unfold mbF
      rw [if_neg (by omega), if_pos z, e101]
    · unfold mbF
      rw [if_neg (by omega), if_neg (by omega), if_pos z, e101]
      congr 1
      omega
    · unfold mbF
      rw [if_neg (by omega), if_neg (by omega), if_neg (by omega), if_pos z, o100, z]
    · unfold mbF
      rw [if_neg (by omega), if_neg (by omega), if_neg (by omega), if_neg (by omega), if_pos z, e101]
      congr 1
      omega
    · unfold mbF
      rw [o101] at z5
      rw [if_neg (by omega), if_neg (by omega), if_neg (by omega), if_neg (by omega), if_neg (by omega), if_pos z]
      omega
    · unfold mbF
      rw [o101] at z5
      rw [if_neg (by omega), if_neg (by omega), if_neg (by omega), if_neg (by omega), if_neg (by omega), if_pos z]
      omega
    · have mi := hM0.mi hH hB hI.2.2
      obtain ⟨w1, w2, w3⟩ := mi.2.2.2.2 (by omega)
      have ew := mi.w
      refine M_pushOf_c w1 (by rw [ew]; exact w2.w) (by rw [o101]; exact w3) hx.1 hx.2 (fun m2 g => ?_)
      have hs : SmM (up m1 83 0 0) m2 := ⟨fun k _ => by rw [g 83 (by decide)], g.wd (by decide)⟩
      refine ⟨?_, by rw [g 83 (by decide)]; exact e0, hC0.lo hs.lo, hM0.smm hs⟩
      unfold mbF
      rw [if_neg (by omega), if_neg (by omega), if_neg (by omega), if_neg (by omega), if_neg (by omega), if_neg (by omega), ew, o101]
    · unfold mbF
      rw [if_pos (by omega), o100]
      congr 1
      omega
  have fin : ∀ v, v = mbF A x y → M_member X (d + 20) x y m (fun v' m2 => v' = v ∧ m2 83 0 = 0 ∧ CW X m2 A (t + 1) ∧ MW m2 A) := by
    intro v e
    rw [e]
    exact M m hI.2.1 hI.1.up
  refine V_memberw hB (V_isMember_c hB hc.1 hc.2.1 (by omega) hx3 (fun z1 z2 => q1e ⟨hy3, fun z => by omega, fun z3 => ⟨fun z4 => ⟨fun z => T_weightOf_c hB (by decide) (fin _ ?_), fun z => T_leanOf_c hB (by decide) (fin _ ?_), fun z => T_heelsOf_c hB (by decide) (fin _ ?_), fun z => ⟨c, hc.1, hc.2.1, K_sightOf_c hB hc.1 (by omega) (fin _ ?_)⟩, fun z => T_seatOf_c hB (by decide) (fin _ ?_), fun z => T_isAboard_c hB (by decide) (fun z5 => q0e (fin _ ?_)) (fun z5 => q1e (fin _ ?_)), fun z => ?_⟩, fun z => by omega⟩⟩) (fun z => by omega))
  · unfold mbF
    rw [if_pos z, s1]
  · unfold mbF
    rw [if_neg (by omega), if_pos z, s2]
  · unfold mbF
    rw [if_neg (by omega), if_neg (by omega), if_pos z, s3]
  · unfold mbF
    rw [if_neg (by omega), if_neg (by omega), if_neg (by omega), if_pos z, v5 _ (by omega) (by omega)]
  · unfold mbF
    rw [if_neg (by omega), if_neg (by omega), if_neg (by omega), if_neg (by omega), if_pos z, s4]
  · unfold mbF
    rw [v4.2.1, ab_bit (by omega) v3.2.1 hx] at z5
    rw [if_neg (by omega), if_neg (by omega), if_neg (by omega), if_neg (by omega), if_neg (by omega), if_pos z]
    omega
  · unfold mbF
    rw [v4.2.1, ab_bit (by omega) v3.2.1 hx] at z5
    rw [if_neg (by omega), if_neg (by omega), if_neg (by omega), if_neg (by omega), if_neg (by omega), if_pos z]
    omega
  · refine S_pushOf_c v1 (Or.inl rfl) v2.w v4 v3 hx.1 hx.2 (fun m1 g => ?_)
    have hs : SmC m m1 := ⟨by rw [g 18 (by decide)], by rw [g 18 (by decide)], g.wd (by decide)⟩
    have := M m1 (hI.2.1.hi hs.hi) (hI.1.smc hs).up
    have e : mbF A x y = pushA (kNm (abK A)) (wtB (abB A)) (abP A) (abQ A) x := by
      unfold mbF
      rw [if_neg (by omega), if_neg (by omega), if_neg (by omega), if_neg (by omega), if_neg (by omega), if_neg (by omega)]
    rw [e] at this
    exact this
theorem memX_m (hB : Bsh X.2.2.1) (hI : InvA X m A t) {x y : Int} (hx : R3 x) (hy : R3 y) (hb : x < 0 ∨ kNm (abK A) ≤ x ∨ y < 0 ∨ 6 < y) (h : CW X (up m 83 0 1) A (t + 1) → MW (up m 83 0 1) A → Q 0 (up m 83 0 1)) : M_member X (d + 20) x y m Q := by
  have hn := hI.n
  have e28 := hI.2.1.n
  have h := h (hI.1.up.lo (fun a ha => up_off (by omega))) (mw_u0 hI.2.1)
  exact M_memberw hB (M_isMember_c hB (by omega) hx (fun z1 z2 => q1e (M_in_c hy (by decide) (by decide) (fun z3 z4 => by omega) (fun z => q0e h))) (fun z => q0e h))
theorem memX_g (hB : Bsh X.2.2.1) (hI : InvA X m A t) {x y : Int} (hx : R3 x) (hy : R3 y) (hb : x < 0 ∨ kNm (abK A) ≤ x ∨ y < 0 ∨ 6 < y) : Go (gP X.1 X.2.1) (d + 2) 118 3 false (18, [some (.ref 0), some (vI x), some (vI y)], [], Wd X.2.2.1 m, X.2.2.2) (0, [some (.ref 0), some (vI x), some (vI y)], [], Wd X.2.2.1 m, X.2.2.2) := by
  have hn := hI.n
  obtain ⟨c, c2, b1, b2, b3, b4, b5, b6, b7, b8⟩ := hI.1.2.1
  have h4 := b7.2.1
  have hV : Clo (gP X.1 X.2.1) (d + 2) 118 3 false (Go (gP X.1 X.2.1) (d + 2) 118 3 false (18, [some (.ref 0), some (vI x), some (vI y)], [], Wd X.2.2.1 m, X.2.2.2)) := Go_clo
  have h : V_isMember X (d + 1) x m (fun v m' => m' = m ∧ ((v = 1 ∧ 0 ≤ x ∧ x < kNm (abK A)) ∨ v = 0)) := V_isMember_c hB b1 b4 (by omega) hx (fun z1 z2 => ⟨rfl, Or.inl ⟨rfl, z1, by omega⟩⟩) (fun z => ⟨rfl, Or.inr rfl⟩)
  refine r_aload_n hV rfl rfl (pc' := 1) rfl ?_
  refine r_iload_n hV rfl rfl (pc' := 2) rfl ?_
  obtain ⟨v2, m2, ⟨rfl, h⟩, hr⟩ := h
  refine tt_cv1I hV rfl rfl rfl (Wd_obj (hB _ _ rfl)) (Nat.le_of_ble_eq_true rfl) (Nat.le_of_ble_eq_true rfl) rfl hr (pc' := 5) rfl ?_
  refine tt_if_eq hV rfl (by omega) (pt := 18) (by decide) (pf := 8) rfl (fun hc => ?_) (fun hc => ?_)
  · exact Go_refl
  · refine r_iload_n hV rfl rfl (pc' := 9) rfl ?_
    refine tt_if_lt hV rfl hy (pt := 18) (by decide) (pf := 12) rfl (fun hc => ?_) (fun hc => ?_)
    · exact Go_refl
    · refine r_iload_n hV rfl rfl (pc' := 13) rfl ?_
      refine tt_bipush hV rfl (by decide) (pc' := 15) rfl ?_
      refine tt_icmp_le hV rfl hy (by decide) (pt := 28) (by decide) (pf := 18) rfl (fun hc => ?_) (fun hc => ?_)
      · omega
      · exact Go_refl
end Memb3
