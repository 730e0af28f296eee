/-! ===== member once more, the two sides apart; what is held at the beginning ===== -/
section Memb4
variable {X : Cx} {d : Nat} {m : Mm} {A : Ab} {t : Int} {Q : Int → Mm → Prop}
theorem mem_M (hH : HLaw) (hB : Bsh X.2.2.1) (hI : InvA X m A t) {x y : Int} (hx : 0 ≤ x ∧ x < kNm (abK A)) (hy : 0 ≤ y ∧ y ≤ 6) {m1 : Mm} (hM : MW m1 A) (hC : CW X m1 A (t + 1)) : M_member X (d + 20) x y m1 (fun v' m2 => v' = mbF A x y ∧ m2 83 0 = 0 ∧ CW X m2 A (t + 1) ∧ MW m2 A ∧ m2 113 0 = m1 113 0) := by
  have hn := hI.n
  have hx3 : R3 x := by unfold R3; omega
  have hy3 : R3 y := by unfold R3; omega
  obtain ⟨c, hc⟩ := hI.1.ci hH hB hI.2.2
  obtain ⟨v1, v2, v3, v4, v5⟩ := hc.2.2.2.2.2 (by omega)
  have h4 := hc.2.2.2.1
  obtain ⟨s1, s2, s3, s4⟩ := v4.1 x hx.1 hx.2
  have hbr := bit_r (abQ A 18) x
  have hQ3 := v3
  have hbx := v2 x hx.1 hx.2
  have h113 : up m1 83 0 0 113 0 = m1 113 0 := by rw [up_off (by decide)]
  have e28 := hM.n
  have e101 := hM.q
  have e100 : m1 100 = abB A := hM.2.2.1
  have hM0 := mw_u0 hM (v := 0)
  have hC0 : CW X (up m1 83 0 0) A (t + 1) := hC.lo (fun a ha => up_off (by omega))
  have e0 : up m1 83 0 0 83 0 = 0 := up_same _ _ _ _
  have o101 : up m1 83 0 0 101 = abQ A := by rw [up_off (by decide)]; exact e101
  have o100 : up m1 83 0 0 100 = abB A := by rw [up_off (by decide)]; exact e100
  refine M_memberw hB (M_isMember_c hB (by omega) hx3 (fun z1 z2 => q1e (M_in_c hy3 (by decide) (by decide) (fun z3 z4 => q1e ⟨hy3, fun z => ⟨by omega, ?_, e0, hC0, hM0, h113⟩, fun z => ⟨by omega, ?_, e0, hC0, hM0, h113⟩, fun z => M_of_c hB (by omega) ⟨?_, e0, hC0, hM0, h113⟩, fun z => ⟨by omega, ?_, e0, hC0, hM0, h113⟩, fun z => M_isOn_c hB (fun z5 => q1e ⟨?_, e0, hC0, hM0, h113⟩) (fun z5 => q0e ⟨?_, e0, hC0, hM0, h113⟩), fun z => ?_, fun z => M_of_c hB (by omega) ⟨?_, e0, hC0, hM0, h113⟩⟩) (fun z => by omega))) (fun z => by omega))
  · unfold mbF
    rw [if_neg (by omega), if_pos z, e101]
  · unfold mbF
    rw [if_neg (by omega), if_neg (by omega), if_pos z, e101]
    congr 1
    omega
  · unfold mbF
    rw [if_neg (by omega), if_neg (by omega), if_neg (by omega), if_pos z, o100, z]
  · unfold mbF
    rw [if_neg (by omega), if_neg (by omega), if_neg (by omega), if_neg (by omega), if_pos z, e101]
    congr 1
    omega
  · unfold mbF
    rw [o101] at z5
    rw [if_neg (by omega), if_neg (by omega), if_neg (by omega), if_neg (by omega), if_neg (by omega), if_pos z]
    omega
  · unfold mbF
    rw [o101] at z5
    rw [if_neg (by omega), if_neg (by omega), if_neg (by omega), if_neg (by omega), if_neg (by omega), if_pos z]
    omega
  · have mi := hM0.mi hH hB hI.2.2
    obtain ⟨w1, w2, w3⟩ := mi.2.2.2.2 (by omega)
    have ew := mi.w
    refine M_pushOf_c w1 (by rw [ew]; exact w2.w) (by rw [o101]; exact w3) hx.1 hx.2 (fun m2 g => ?_)
    have hs : SmM (up m1 83 0 0) m2 := ⟨fun k _ => by rw [g 83 (by decide)], g.wd (by decide)⟩
    refine ⟨?_, by rw [g 83 (by decide)]; exact e0, hC0.lo hs.lo, hM0.smm hs, (congrFun (g 113 (by decide)) 0).trans h113⟩
    unfold mbF
    rw [if_neg (by omega), if_neg (by omega), if_neg (by omega), if_neg (by omega), if_neg (by omega), if_neg (by omega), ew, o101]
  · unfold mbF
    rw [if_pos (by omega), o100]
    congr 1
    omega
theorem mem_V (hH : HLaw) (hB : Bsh X.2.2.1) (hI : InvA X m A t) {x y : Int} (hx : 0 ≤ x ∧ x < kNm (abK A)) (hy : 0 ≤ y ∧ y ≤ 6) (h : ∀ m1, CW X m1 A (t + 1) → MW m1 A → Q (mbF A x y) m1) : V_member X (d + 20) x y m Q := by
  have hn := hI.n
  have hx3 : R3 x := by unfold R3; omega
  have hy3 : R3 y := by unfold R3; omega
  obtain ⟨c, hc⟩ := hI.1.ci hH hB hI.2.2
  obtain ⟨v1, v2, v3, v4, v5⟩ := hc.2.2.2.2.2 (by omega)
  have h4 := hc.2.2.2.1
  obtain ⟨s1, s2, s3, s4⟩ := v4.1 x hx.1 hx.2
  have hbr := bit_r (abQ A 18) x
  have hQ3 := v3
  have hbx := v2 x hx.1 hx.2
  have fin : ∀ v, v = mbF A x y → Q v m := by
    intro v e
    rw [e]
    exact h m hI.1.up hI.2.1
  refine V_memberw hB (V_isMember_c hB hc.1 hc.2.1 (by omega) hx3 (fun z1 z2 => q1e ⟨hy3, fun z => by omega, fun z3 => ⟨fun z4 => ⟨fun z => T_weightOf_c hB (by decide) (fin _ ?_), fun z => T_leanOf_c hB (by decide) (fin _ ?_), fun z => T_heelsOf_c hB (by decide) (fin _ ?_), fun z => ⟨c, hc.1, hc.2.1, K_sightOf_c hB hc.1 (by omega) (fin _ ?_)⟩, fun z => T_seatOf_c hB (by decide) (fin _ ?_), fun z => T_isAboard_c hB (by decide) (fun z5 => q0e (fin _ ?_)) (fun z5 => q1e (fin _ ?_)), fun z => ?_⟩, fun z => by omega⟩⟩) (fun z => by omega))
  · unfold mbF
    rw [if_pos z, s1]
  · unfold mbF
    rw [if_neg (by omega), if_pos z, s2]
  · unfold mbF
    rw [if_neg (by omega), if_neg (by omega), if_pos z, s3]
  · unfold mbF
    rw [if_neg (by omega), if_neg (by omega), if_neg (by omega), if_pos z, v5 _ (by omega) (by omega)]
  · unfold mbF
    rw [if_neg (by omega), if_neg (by omega), if_neg (by omega), if_neg (by omega), if_pos z, s4]
  · unfold mbF
    rw [v4.2.1, ab_bit (by omega) v3.2.1 hx] at z5
    rw [if_neg (by omega), if_neg (by omega), if_neg (by omega), if_neg (by omega), if_neg (by omega), if_pos z]
    omega
  · unfold mbF
    rw [v4.2.1, ab_bit (by omega) v3.2.1 hx] at z5
    rw [if_neg (by omega), if_neg (by omega), if_neg (by omega), if_neg (by omega), if_neg (by omega), if_pos z]
    omega
  · refine S_pushOf_c v1 (Or.inl rfl) v2.w v4 v3 hx.1 hx.2 (fun m1 g => ?_)
    have hs : SmC m m1 := ⟨by rw [g 18 (by decide)], by rw [g 18 (by decide)], g.wd (by decide)⟩
    have := h m1 (hI.1.smc hs).up (hI.2.1.hi hs.hi)
    have e : mbF A x y = pushA (kNm (abK A)) (wtB (abB A)) (abP A) (abQ A) x := by
      unfold mbF
      rw [if_neg (by omega), if_neg (by omega), if_neg (by omega), if_neg (by omega), if_neg (by omega), if_neg (by omega)]
    rw [e] at this
    exact this
theorem cw_o113 (h : CW X m A t) {k v : Int} : CW X (up m 113 k v) A t := by
  obtain ⟨a1, ⟨c, c2, b1, b2, b3, b4, b5, b6, b7, b8⟩, a3, a4, a5, a6, a7, a8, a9⟩ := h
  have hh : ∀ a, a ≠ 113 → up m 113 k v a = m a := fun a ha => up_off ha
  have f : ∀ a, a < 83 → up m 113 k v a = m a := fun a ha => hh a (by omega)
  unfold CW
  rw [f 1 (by omega), f 2 (by omega), f 0 (by omega), f 18 (by omega), f 17 (by omega), f 82 (by omega), f 73 (by omega), f 77 (by omega), f 78 (by omega), f 79 (by omega)]
  refine ⟨a1, ⟨c, c2, b1, b2, b3, b4, b5, b6, b7.fr (f _ (by omega)) (f _ (by omega)) (f _ (by omega)), fun j h1 h2 => by rw [f (c + 3) (by omega)]; exact b8 j h1 h2⟩, a3.cg (by rw [f 0 (by omega)]) (by rw [f 0 (by omega)]) (by rw [f 18 (by omega)]) (f 8 (by omega)) (fun a ha => hh a (by omega)), ?_, ?_, a6, a7, a8, a9⟩
  · exact a4.cg (f 17 (by omega)) (by rw [f 21 (by omega)]) (by rw [f 21 (by omega)]) (f 22 (by omega)) (f 23 (by omega)) (fun a h1 h2 => f a (by omega))
  · exact a5.cg (by rw [f 21 (by omega)]) (f 24 (by omega)) (f 25 (by omega))
theorem cw_app (h : CW X m A t) (s : List Sh) (n' : Nat) : CW (X.1, X.2.1, X.2.2.1 ++ s, n') m A t := by
  obtain ⟨a1, a2, a3, a4⟩ := h
  refine ⟨a1, a2, ?_, a4⟩
  obtain ⟨c1, c2, c3, c4, c5⟩ := a3
  refine ⟨c1, c2, c3, c4, fun i hi => ?_⟩
  obtain ⟨l, a, ln, e1, e2, e3, e4, e5, e6⟩ := c5 i hi
  have q : ∀ (b : Nat) (z : Sh), X.2.2.1[b]? = some z → (X.2.2.1 ++ s)[b]? = some z := fun b z hz => by
    have hl : b < X.2.2.1.length := by
      rcases Nat.lt_or_ge b X.2.2.1.length with q | q
      · exact q
      · rw [List.getElem?_eq_none q] at hz; cases hz
    rw [List.getElem?_append_left hl]
    exact hz
  exact ⟨l, a, ln, e1, e2, e3, q l _ e4, q a _ e5, e6⟩
end Memb4
/-- nothing told yet -/
def A0 : Ab := ((0, fun _ => 0), ((m0 98, m0 99, 0, 0, 0), m0 100), (m0 101, [], none), (fun _ => 0, 0), (0, fun _ => 0, fun _ => 0, fun _ => 0), ([], -1))
theorem inv0 {xs : List Int32} {fv : Value} {n : Nat} : InvA (xs, fv, bs, n) m0 A0 0 := by
  have no : ∀ j : Int, 0 ≤ j → ¬ j < 0 := fun j h => by omega
  have z : ∀ a : Nat, ¬ (a = 0 ∨ a = 8 ∨ a = 18 ∨ a = 23 ∨ a = 83) → ∀ j, m0 a j = 0 := fun a h => m0_z h
  have hlr : lrng (m0 101) := by
    refine ⟨⟨?_, ?_⟩, fun i h1 h2 => ?_⟩
    · rw [z 101 (by decide)]; decide
    · rw [z 101 (by decide)]; decide
    · rw [z 101 (by decide)] at h2
      exact absurd h2 (no i h1)
  refine ⟨⟨⟨rfl, fun j h1 h2 => absurd h2 (no j h1)⟩, ⟨9, 13, Or.inl rfl, Or.inr rfl, by decide, rfl, rfl, rfl, ⟨rfl, rfl, rfl, fun j _ _ => ?_, fun j h1 h2 => absurd h2 (no j h1)⟩, fun j h1 h2 => absurd h2 (no j h1)⟩, ⟨rfl, rfl, Or.inl rfl, rfl, fun i hi => absurd hi (Nat.not_lt_zero _)⟩, ⟨⟨fun k h1 h2 => absurd h2 (no k h1), ?_, ?_, ?_, ?_, ?_, ?_⟩, ⟨hlr, ?_, ?_, fun i h1 h2 => ?_⟩, rfl, Nat.zero_le _, ?_, fun j _ _ => ?_, fun i hi => absurd hi (Nat.not_lt_zero _), fun i j h1 h2 => ?_⟩, rfl, ?_, fun j _ _ => z 82 (by decide) j, rfl, ⟨rfl, fun j h1 h2 => absurd h2 (no j h1)⟩⟩, ⟨⟨rfl, fun j h1 h2 => absurd h2 (no j h1)⟩, rfl, rfl, ⟨rfl, rfl, fun i hi => absurd hi (Nat.not_lt_zero _)⟩, ⟨rfl, rfl, Nat.zero_le _, fun i hi => absurd hi (Nat.not_lt_zero _)⟩, rfl, fun j _ _ => z 102 (by decide) j, rfl, ⟨rfl, fun j h1 h2 => absurd h2 (no j h1)⟩⟩, ⟨by decide, ⟨by decide, by decide, fun j h1 h2 => absurd h2 (no j h1)⟩, by decide, fun _ => ⟨rfl, rfl, rfl, rfl, rfl, fun j _ _ => z 101 (by decide) j⟩, fun h => absurd h (by decide), fun j _ _ => ⟨Int.le_refl _, Int.le_refl _⟩, by decide, ⟨by decide, fun j h1 h2 => absurd h2 (no j h1)⟩, ⟨Nat.zero_le _, fun L hL => by cases hL⟩, Or.inl rfl⟩⟩
  · exact (z 10 (by decide) j).trans (z 98 (by decide) j).symm
  · rw [z 17 (by decide)]
    show (0 : Int) = pw 0 - 1 - m0 101 18
    rw [z 101 (by decide)]
    decide
  · rfl
  · rfl
  · rfl
  · rfl
  · rfl
  · rw [z 17 (by decide)]; decide
  · rw [z 17 (by decide)]
    show m0 101 24 = min 0 60
    rw [z 101 (by decide)]
    decide
  · have h3 : i < m0 101 24 := h2
    rw [z 101 (by decide)] at h3
    exact absurd h3 (no i h1)
  · rw [z 21 (by decide)]; decide
  · unfold m0
    rw [if_neg (by omega), if_neg (by omega), if_neg (by omega), if_neg (by omega), if_neg (by omega), if_neg (by omega), if_pos rfl]
  · have h2' : j ≤ 0 := h2
    have ei : i = 0 := by omega
    have ej : j = 0 := by omega
    subst ei
    subst ej
    rw [Int.sub_self]
    show (0 : Int) ≤ 0 ∧ 0 + (if 0 < 0 ∧ 0 = 0 then (0 : Int) else 0) ≤ 20 * (((0 : Nat) : Int) - ((0 : Nat) : Int))
    exact ⟨Int.le_refl _, by simp⟩
  · rw [z 17 (by decide)]; decide
