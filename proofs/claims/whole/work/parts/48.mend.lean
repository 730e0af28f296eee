/-! ===== the reference: down to the church and back ===== -/
def metA (K : Kn) (wt : Int → Int) (pf : Pf) : Nat → (Int → Int) → Int → Int
  | 0, _, x => x
  | f + 1, q, x => metA K wt pf f (slideA K wt pf q) (if bumpQ K wt pf q = -1 then x else iO x (iSl 1 (bumpQ K wt pf q)))
theorem upR_0 (m : Mm) (a : Nat) (f : Int → Int) : upR m a 0 0 f = m := by
  funext b j
  unfold upR
  rw [if_neg (by omega)]
theorem upR_step {m : Mm} {a b : Nat} {k : Int} (hab : b ≠ a) (hk : 0 ≤ k) : up (upR m a 0 k (m b)) a k (upR m a 0 k (m b) b k) = upR m a 0 (k + 1) (m b) := by
  rw [upR_off hab]
  funext c j
  unfold up upR
  by_cases h : c = a
  · subst h
    by_cases h2 : j = k
    · subst h2
      rw [if_pos ⟨rfl, rfl⟩, if_pos (by omega)]
    · rw [if_neg (by omega)]
      by_cases h3 : 0 ≤ j ∧ j < k
      · rw [if_pos ⟨rfl, h3⟩, if_pos (by omega)]
      · rw [if_neg (by omega), if_neg (by omega)]
  · rw [if_neg (by omega), if_neg (by omega), if_neg (by omega)]
theorem Fr.upR {S : List Nat} {m m1 : Mm} {a : Nat} {lo hi : Int} {f : Int → Int} (h : Fr S m m1) (ha : a ∈ S) : Fr S m (upR m1 a lo hi f) := fun b hb => by
  have e : b ≠ a := fun e => hb (by rw [e]; exact ha)
  rw [upR_off e]
  exact h b hb
section Mend
variable (xs : List Int32) (fv : Value) (d n : Nat) {sh : List Sh} {m : Mm}
theorem m_slideDown (hB : Bsh sh) {pf : Pf} (hP : PM xs fv sh n m pf) (hp : Pok pf) (hK : Kok (kM m)) (hQ : Qok (kM m) (m 101)) (hW : Wok (kM m) (wtM m)) {T : Int → Int} {X : Int} (hT : endA (kM m) (wtM m) pf (m 101) = T) (hX : metA (kM m) (wtM m) pf (m 98 3 - m 101 21).toNat (m 101) (m 83 34) = X) : Ru0 (gP xs fv) (d + 8) 221 sh n (fun m' => m' 101 = T ∧ Fr [83, 92, 93, 101] m m' ∧ (∀ k, k ≠ 34 → m' 83 k = m 83 k) ∧ m' 83 34 = X) (0, [some (.ref 83)], [], Wd sh m, n) := by
  have hV : Clo (gP xs fv) (d + 8) 221 1 false (Ru0 (gP xs fv) (d + 8) 221 sh n (fun m' => m' 101 = T ∧ Fr [83, 92, 93, 101] m m' ∧ (∀ k, k ≠ 34 → m' 83 k = m 83 k) ∧ m' 83 34 = X)) := Ru0_clo (q := mI221) rfl
  have hrw : 1 ≤ m 98 3 ∧ m 98 3 ≤ 20 := hK.2.2.2.2.2.1
  have LP : ∀ (f : Nat) (m1 : Mm), Fr [83, 92, 93, 101] m m1 → (∀ k, k ≠ 34 → m1 83 k = m 83 k) → Qok (kM m) (m1 101) → m 98 3 - m1 101 21 = f → slidesA (kM m) (wtM m) pf f (m1 101) = T → metA (kM m) (wtM m) pf f (m1 101) (m1 83 34) = X → Ru0 (gP xs fv) (d + 8) 221 sh n (fun m' => m' 101 = T ∧ Fr [83, 92, 93, 101] m m' ∧ (∀ k, k ≠ 34 → m' 83 k = m 83 k) ∧ m' 83 34 = X) (0, [some (.ref 83)], [], Wd sh m1, n) := by
    intro f
    induction f with
    | zero =>
      intro m1 g1 g2 g3 g4 g5 g6
      have hro : 0 ≤ m1 101 21 ∧ m1 101 21 ≤ m 98 3 := g3.2.2.2.2.1
      have e98 : m1 98 3 = m 98 3 := by rw [g1 98 (by decide)]
      refine r_aload_n hV rfl rfl (pc' := 1) rfl ?_
      refine tt_cv0I hV rfl rfl rfl (Wd_obj (hB _ _ rfl)) (Nat.le_of_ble_eq_true rfl) (Nat.le_of_ble_eq_true rfl) rfl (m_isLast xs fv _ _ hB (by omega) (by omega)) (pc' := 4) rfl ?_
      refine tt_if_ne hV rfl (by omega) (pt := 15) (by decide) (pf := 7) rfl (fun h4 => ?_) (fun h4 => absurd (by omega) h4)
      exact ru0_ret (q := mI221) rfl rfl rfl ⟨g5, g1, g2, g6⟩
    | succ f ih =>
      intro m1 g1 g2 g3 g4 g5 g6
      have hro : 0 ≤ m1 101 21 ∧ m1 101 21 ≤ m 98 3 := g3.2.2.2.2.1
      have e98 : m1 98 3 = m 98 3 := by rw [g1 98 (by decide)]
      have eK : kM m1 = kM m := by unfold kM; rw [g1 98 (by decide), g1 99 (by decide), g2 _ (by decide), g2 _ (by decide), g2 _ (by decide)]
      have eW : wtM m1 = wtM m := by unfold wtM; rw [g1 100 (by decide)]
      obtain ⟨v, m2, ⟨-, y2, y3, y4, y5⟩, hr⟩ := m_slide xs fv d n (m := m1) hB (hP.ls ⟨g2 32 (by decide), fun a q1 q2 => g1 a (by simp; omega)⟩) hp (by rw [eK]; exact hK) (by rw [eK]; exact g3) (by rw [eK, eW]; exact hW)
      rw [eK, eW] at y2 y5
      refine r_aload_n hV rfl rfl (pc' := 1) rfl ?_
      refine tt_cv0I hV rfl rfl rfl (Wd_obj (hB _ _ rfl)) (Nat.le_of_ble_eq_true rfl) (Nat.le_of_ble_eq_true rfl) rfl (m_isLast xs fv _ _ hB (by omega) (by omega)) (pc' := 4) rfl ?_
      refine tt_if_ne hV rfl (by omega) (pt := 15) (by decide) (pf := 7) rfl (fun h4 => absurd h4 (by omega)) (fun h4 => ?_)
      refine r_aload_n hV rfl rfl (pc' := 8) rfl ?_
      refine tt_cv0I hV rfl rfl rfl (Wd_obj (hB _ _ rfl)) (Nat.le_of_ble_eq_true rfl) (Nat.le_of_ble_eq_true rfl) rfl hr (pc' := 11) rfl ?_
      refine r_pop hV rfl rfl (pc' := 12) rfl ?_
      refine r_goto hV rfl (pc' := 0) (by decide) ?_
      refine ih m2 (g1.tr y3) (fun k hk => (y4 k hk).trans (g2 k hk)) (by rw [y2]; exact slideA_ok hK g3 (by show m1 101 21 < m 98 3; omega)) ?_ (by rw [y2]; exact g5) (by rw [y2, y5]; exact g6)
      rw [y2]
      show m 98 3 - (m1 101 21 + 1) = f
      omega
  have hro : 0 ≤ m 101 21 ∧ m 101 21 ≤ m 98 3 := hQ.2.2.2.2.1
  exact LP (m 98 3 - m 101 21).toNat m (Fr.rf _ _) (fun _ _ => rfl) hQ (by omega) hT hX
theorem m_putAside (hB : Bsh sh) : Ru (gP xs fv) d 245 (none, Wd sh (up (upR m 104 0 24 (m 101)) 83 34 0), n) (0, [some (.ref 83), none], [], Wd sh m, n) := by
  have hV : Clo (gP xs fv) d 245 2 false (Ru (gP xs fv) d 245 (none, Wd sh (up (upR m 104 0 24 (m 101)) 83 34 0), n)) := Ru_clo (q := mI245) rfl
  have LP : ∀ (f : Nat) (k : Int) (m1 : Mm), 0 ≤ k → k ≤ 24 → 24 - k < f → m1 = upR m 104 0 k (m 101) → Ru (gP xs fv) d 245 (none, Wd sh (up (upR m 104 0 24 (m 101)) 83 34 0), n) (2, [some (.ref 83), some (vI k)], [], Wd sh m1, n) := by
    intro f
    induction f with
    | zero => intro k m1 h1 h2 h3 h4; omega
    | succ f ih =>
      intro k m1 h1 h2 h3 h4
      refine r_iload_n hV rfl rfl (pc' := 3) rfl ?_
      refine tt_bipush hV rfl (by decide) (pc' := 5) rfl ?_
      refine tt_icmp_ge hV rfl (by omega) (by omega) (pt := 26) (by decide) (pf := 8) rfl (fun h5 => ?_) (fun h5 => ?_)
      · refine r_aload_n hV rfl rfl (pc' := 27) rfl ?_
        refine tt_iconst hV rfl (pc' := 28) rfl ?_
        refine tt_putI hV (tg := 0) (ci := 12) (kf := 34) rfl rfl (Or.inl rfl) (hB _ _ rfl) rfl (by decide) rfl (pc' := 31) rfl ?_
        exact v_ret (q := mI245) rfl rfl rfl (by rw [h4, show k = 24 by omega])
      · refine r_aload_n hV rfl rfl (pc' := 9) rfl ?_
        refine tt_getR hV (tg := 6) (ci := 12) (kf := 38) rfl rfl (by decide) (hB _ _ rfl) rfl (by decide) (pc' := 12) rfl ?_
        refine r_iload_n hV rfl rfl (pc' := 13) rfl ?_
        refine r_aload_n hV rfl rfl (pc' := 14) rfl ?_
        refine tt_getR hV (tg := 6) (ci := 12) (kf := 30) rfl rfl (by decide) (hB _ _ rfl) rfl (by decide) (pc' := 17) rfl ?_
        refine r_iload_n hV rfl rfl (pc' := 18) rfl ?_
        refine tt_iald hV rfl (hB _ _ rfl) (by decide) (by omega) (pc' := 19) rfl ?_
        refine tt_iast hV rfl (hB _ _ rfl) (by decide) (by omega) (pc' := 20) rfl ?_
        refine tt_iinc1 hV rfl rfl (pc' := 23) rfl ?_
        refine r_goto hV rfl (pc' := 2) (by decide) ?_
        exact ih (k + 1) _ (by omega) (by omega) (by omega) (by rw [h4]; exact upR_step (by decide) h1)
  refine tt_iconst hV rfl (pc' := 1) rfl ?_
  refine tt_istore1 hV rfl rfl (pc' := 2) rfl ?_
  exact LP 25 0 m (by omega) (by omega) (by omega) (upR_0 _ _ _).symm
theorem m_takeBack (hB : Bsh sh) : Ru (gP xs fv) d 246 (none, Wd sh (upR m 101 0 24 (m 104)), n) (0, [some (.ref 83), none], [], Wd sh m, n) := by
  have hV : Clo (gP xs fv) d 246 2 false (Ru (gP xs fv) d 246 (none, Wd sh (upR m 101 0 24 (m 104)), n)) := Ru_clo (q := mI246) rfl
  have LP : ∀ (f : Nat) (k : Int) (m1 : Mm), 0 ≤ k → k ≤ 24 → 24 - k < f → m1 = upR m 101 0 k (m 104) → Ru (gP xs fv) d 246 (none, Wd sh (upR m 101 0 24 (m 104)), n) (2, [some (.ref 83), some (vI k)], [], Wd sh m1, n) := by
    intro f
    induction f with
    | zero => intro k m1 h1 h2 h3 h4; omega
    | succ f ih =>
      intro k m1 h1 h2 h3 h4
      refine r_iload_n hV rfl rfl (pc' := 3) rfl ?_
      refine tt_bipush hV rfl (by decide) (pc' := 5) rfl ?_
      refine tt_icmp_ge hV rfl (by omega) (by omega) (pt := 26) (by decide) (pf := 8) rfl (fun h5 => ?_) (fun h5 => ?_)
      · exact v_ret (q := mI246) rfl rfl rfl (by rw [h4, show k = 24 by omega])
      · refine r_aload_n hV rfl rfl (pc' := 9) rfl ?_
        refine tt_getR hV (tg := 6) (ci := 12) (kf := 30) rfl rfl (by decide) (hB _ _ rfl) rfl (by decide) (pc' := 12) rfl ?_
        refine r_iload_n hV rfl rfl (pc' := 13) rfl ?_
        refine r_aload_n hV rfl rfl (pc' := 14) rfl ?_
        refine tt_getR hV (tg := 6) (ci := 12) (kf := 38) rfl rfl (by decide) (hB _ _ rfl) rfl (by decide) (pc' := 17) rfl ?_
        refine r_iload_n hV rfl rfl (pc' := 18) rfl ?_
        refine tt_iald hV rfl (hB _ _ rfl) (by decide) (by omega) (pc' := 19) rfl ?_
        refine tt_iast hV rfl (hB _ _ rfl) (by decide) (by omega) (pc' := 20) rfl ?_
        refine tt_iinc1 hV rfl rfl (pc' := 23) rfl ?_
        refine r_goto hV rfl (pc' := 2) (by decide) ?_
        exact ih (k + 1) _ (by omega) (by omega) (by omega) (by rw [h4]; exact upR_step (by decide) h1)
  refine tt_iconst hV rfl (pc' := 1) rfl ?_
  refine tt_istore1 hV rfl rfl (pc' := 2) rfl ?_
  exact LP 25 0 m (by omega) (by omega) (by omega) (upR_0 _ _ _).symm
theorem slidesA_out (K : Kn) (wt : Int → Int) (pf : Pf) (f : Nat) (q : Int → Int) (j : Int) (h : j ≠ 18 ∧ j ≠ 21 ∧ j ≠ 22) : slidesA K wt pf f q j = q j := by
  induction f generalizing q with
  | zero => rfl
  | succ f ih =>
    unfold slidesA
    rw [ih]
    unfold slideA
    rw [if_neg h.1, if_neg h.2.1, if_neg h.2.2]
theorem m_layEnd (hB : Bsh sh) {pf : Pf} (hP : PM xs fv sh n m pf) (hp : Pok pf) (hK : Kok (kM m)) (hQ : Qok (kM m) (m 101)) (hW : Wok (kM m) (wtM m)) : Ru0 (gP xs fv) (d + 9) 247 sh n (fun m' => m' 83 39 = endA (kM m) (wtM m) pf (m 101) 22 ∧ m' 83 40 = endA (kM m) (wtM m) pf (m 101) 18 ∧ m' 83 34 = metA (kM m) (wtM m) pf (m 98 3 - m 101 21).toNat (m 101) (m 83 34) ∧ (∀ j, 0 ≤ j → j < 24 → m' 101 j = m 104 j) ∧ (∀ j, (j < 0 ∨ 24 ≤ j) → m' 101 j = m 101 j) ∧ Fr [83, 92, 93, 101] m m' ∧ (∀ k, k ≠ 34 → k ≠ 39 → k ≠ 40 → m' 83 k = m 83 k)) (0, [some (.ref 83)], [], Wd sh m, n) := by
  have hV : Clo (gP xs fv) (d + 9) 247 1 false (Ru0 (gP xs fv) (d + 9) 247 sh n (fun m' => m' 83 39 = endA (kM m) (wtM m) pf (m 101) 22 ∧ m' 83 40 = endA (kM m) (wtM m) pf (m 101) 18 ∧ m' 83 34 = metA (kM m) (wtM m) pf (m 98 3 - m 101 21).toNat (m 101) (m 83 34) ∧ (∀ j, 0 ≤ j → j < 24 → m' 101 j = m 104 j) ∧ (∀ j, (j < 0 ∨ 24 ≤ j) → m' 101 j = m 101 j) ∧ Fr [83, 92, 93, 101] m m' ∧ (∀ k, k ≠ 34 → k ≠ 39 → k ≠ 40 → m' 83 k = m 83 k))) := Ru0_clo (q := mI247) rfl
  obtain ⟨m1, ⟨y1, y2, y3, y4⟩, hr⟩ := m_slideDown xs fv d n hB hP hp hK hQ hW rfl rfl
  refine r_aload_n hV rfl rfl (pc' := 1) rfl ?_
  refine tt_cv0U hV rfl rfl rfl (Wd_obj (hB _ _ rfl)) (Nat.le_of_ble_eq_true rfl) (Nat.le_of_ble_eq_true rfl) rfl hr (pc' := 4) rfl ?_
  refine r_aload_n hV rfl rfl (pc' := 5) rfl ?_
  refine r_aload_n hV rfl rfl (pc' := 6) rfl ?_
  refine tt_getR hV (tg := 6) (ci := 12) (kf := 30) rfl rfl (by decide) (hB _ _ rfl) rfl (by decide) (pc' := 9) rfl ?_
  refine tt_bipush hV rfl (by decide) (pc' := 11) rfl ?_
  refine tt_iald hV rfl (hB _ _ rfl) (by decide) (by omega) (pc' := 12) rfl ?_
  refine tt_putI hV (tg := 0) (ci := 12) (kf := 39) rfl rfl (Or.inl rfl) (hB _ _ rfl) rfl (by decide) rfl (pc' := 15) rfl ?_
  refine r_aload_n hV rfl rfl (pc' := 16) rfl ?_
  refine r_aload_n hV rfl rfl (pc' := 17) rfl ?_
  refine tt_getR hV (tg := 6) (ci := 12) (kf := 30) rfl rfl (by decide) (hB _ _ rfl) rfl (by decide) (pc' := 20) rfl ?_
  refine tt_bipush hV rfl (by decide) (pc' := 22) rfl ?_
  refine tt_iald hV rfl (hB _ _ rfl) (by decide) (by omega) (pc' := 23) rfl ?_
  refine tt_putI hV (tg := 0) (ci := 12) (kf := 40) rfl rfl (Or.inl rfl) (hB _ _ rfl) rfl (by decide) rfl (pc' := 26) rfl ?_
  refine r_aload_n hV rfl rfl (pc' := 27) rfl ?_
  refine tt_cv0U hV rfl rfl rfl (Wd_obj (hB _ _ rfl)) (Nat.le_of_ble_eq_true rfl) (Nat.le_of_ble_eq_true rfl) rfl (m_takeBack xs fv _ _ hB) (pc' := 30) rfl ?_
  refine ru0_ret (q := mI247) rfl rfl rfl ⟨?_, ?_, ?_, ?_, ?_, ?_, ?_⟩
  · rw [upR_off (by decide), up_ne (Or.inr (by decide)), up_same, y1]
  · rw [upR_off (by decide), up_same, up_off (by decide), y1]
  · rw [upR_off (by decide), up_ne (Or.inr (by decide)), up_ne (Or.inr (by decide)), y4]
  · intro j h1 h2
    rw [upR_in ⟨h1, h2⟩, up_off (by decide), up_off (by decide), y2 104 (by decide)]
  · intro j h1
    rw [upR_out h1, up_off (by decide), up_off (by decide), y1]
    exact slidesA_out _ _ _ _ _ _ (by omega)
  · exact ((y2.up (by decide)).up (by decide)).upR (by decide)
  · intro k h1 h2 h3
    rw [upR_off (by decide), up_ne (Or.inr h3), up_ne (Or.inr h2)]
    exact y3 k h1
end Mend
