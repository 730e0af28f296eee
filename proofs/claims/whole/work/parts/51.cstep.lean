/-! ===== the class: a row further, down to the church; states ===== -/
theorem Sr.cong {K : Kn} {wt f f' q : Int → Int} (h : Sr K wt f q) (e : ∀ j, 0 ≤ j → j ≤ 9 → f' j = f j) : Sr K wt f' q := by
  unfold Sr at *
  rw [e 0 (by omega) (by omega), e 1 (by omega) (by omega), e 2 (by omega) (by omega), e 3 (by omega) (by omega), e 4 (by omega) (by omega), e 5 (by omega) (by omega), e 6 (by omega) (by omega), e 7 (by omega) (by omega), e 8 (by omega) (by omega), e 9 (by omega) (by omega)]
  exact h
theorem Sr.slide {K : Kn} {wt f f' q : Int → Int} {pf : Pf} (hS : Sr K wt f q) (hn : kNm K ≤ 6) (h0 : f' 0 = f 0) (h1 : f' 1 = f 1) (h2 : f' 2 = f 2) (h3 : f' 3 = f 3) (h4 : f' 4 = f 4 - fellA K wt pf q) (h5 : f' 5 = f 5) (h6 : f' 6 = f 6) (h7 : f' 7 = f 7 + 1) (h8 : f' 8 = colA2 K wt pf q) (h9 : f' 9 = f 9) : Sr K wt f' (slideA K wt pf q) := by
  have e : ∀ j, j ≠ 18 → j ≠ 21 → j ≠ 22 → slideA K wt pf q j = q j := fun j a b c => by
    unfold slideA
    rw [if_neg a, if_neg b, if_neg c]
  unfold Sr at *
  rw [h0, h1, h2, h3, h4, h5, h6, h7, h8, h9]
  obtain ⟨a1, a2, a3, a4, a5, a6, a7⟩ := hS
  refine ⟨fun k q1 q2 => ?_, ?_, ?_, ?_, ?_, rfl, ?_⟩
  · rw [e _ (by omega) (by omega) (by omega), e _ (by omega) (by omega) (by omega), e _ (by omega) (by omega) (by omega)]
    exact a1 k q1 q2
  · show f 4 - fellA K wt pf q = pw (kNm K) - 1 - (q 18 + fellA K wt pf q)
    omega
  · exact a3
  · exact a4
  · show f 7 + 1 = q 21 + 1
    omega
  · exact a7
section Cstep
variable (xs : List Int32) (fv : Value) (d n : Nat) {sh : List Sh} {m : Mm}
theorem c_step (hB : Bsh sh) {c s : Nat} {K : Kn} (hcc : c = 9 ∨ c = 13) (hso : stO s) (hs : sh[s]? = some stS) (h18 : m 18 0 = (c : Int)) (hck : Ck m c K) (hK : Kok K) {wt q : Int → Int} {pf : Pf} (hP : PC xs fv sh n m pf) (hp : Pok pf) (hS : Sr K wt (m s) q) (hQ : Qok K q) (hW : Wok K wt) : Ru0 (gP xs fv) (d + 7) 81 sh n (fun m' => Sr K wt (m' s) (slideA K wt pf q) ∧ m' s 10 = m s 10 ∧ m' 18 2 = sumA K wt pf q ∧ m' 18 3 = fellA K wt pf q ∧ m' 18 4 = bumpQ K wt pf q ∧ m' 18 0 = m 18 0 ∧ m' 18 1 = m 18 1 ∧ Fr [18, 19, 20, s] m m') (0, [some (.ref 18), some (.ref s), none], [], Wd sh m, n) := by
  obtain ⟨Q, hQe⟩ : ∃ Q : Mm → Prop, Q = (fun m' => Sr K wt (m' s) (slideA K wt pf q) ∧ m' s 10 = m s 10 ∧ m' 18 2 = sumA K wt pf q ∧ m' 18 3 = fellA K wt pf q ∧ m' 18 4 = bumpQ K wt pf q ∧ m' 18 0 = m 18 0 ∧ m' 18 1 = m 18 1 ∧ Fr [18, 19, 20, s] m m') := ⟨_, rfl⟩
  rw [← hQe]
  have hc := csh_of hB hcc
  have hn := hK.1
  have hwd := hK.2.2.1
  have hgr := hK.2.2.2.2.1
  have hof := hQ.2.1
  have hro := hQ.2.2.2.2.1
  have hrw := hK.2.2.2.2.2.1
  have hco := hQ.2.2.2.2.2
  have hnb := hK.2.1
  have hsm := sumA_r hp hK hQ hW
  have e2 : m (c + 1) 2 = kR K 2 := hck.2.2.2.1 2 (by omega) (by omega)
  have eq5 : m s 5 = q 19 := hS.2.2.1
  have eq7 : m s 7 = q 21 := hS.2.2.2.2.1
  have eq8 : m s 8 = q 22 := hS.2.2.2.2.2.1
  obtain ⟨b, hb⟩ : ∃ b, b = bumpQ K wt pf q := ⟨_, rfl⟩
  obtain ⟨c1, hc1⟩ : ∃ c, c = colA1 K wt pf q := ⟨_, rfl⟩
  have hc1r : 0 ≤ c1 ∧ c1 < kR K 0 := by
    rw [hc1]
    unfold colA1 asideA
    omega
  have hbr : b = -1 ∨ (0 ≤ b ∧ b < kNb K) := by
    rcases bumpFrom_r (kB K) (q 21 + 1) c1 (kNb K).toNat 0 (by omega) with h | h
    · exact Or.inl (by rw [hb]; unfold bumpQ; rw [← hc1]; exact h)
    · refine Or.inr ?_
      have e : bumpFrom (kB K) (q 21 + 1) c1 (kNb K).toNat 0 = b := by rw [hb]; unfold bumpQ; rw [← hc1]; rfl
      rw [e] at h
      omega
  have hb9 := bit01 (q 19) b
  have hb8 : bit (m s 5) b = bit (q 19) b := by rw [eq5]
  have hV : Clo (gP xs fv) (d + 7) 81 3 false (Ru0 (gP xs fv) (d + 7) 81 sh n Q) := Ru0_clo (q := mI81) rfl
  have J51 : ∀ (m1 : Mm) (o2 : Option Value), m1 s 8 = c1 → (∀ k, k ≠ 8 → m1 s k = m s k) → m1 18 2 = sumA K wt pf q → m1 18 0 = m 18 0 → m1 18 1 = m 18 1 → Fr [18, 19, 20, s] m m1 → Ru0 (gP xs fv) (d + 7) 81 sh n Q (51, [some (.ref 18), some (.ref s), o2], [], Wd sh m1, n) := by
    intro m1 o2 g1 g2 g3 g4 g5 g6
    refine r_aload_n hV rfl rfl (pc' := 52) rfl ?_
    refine r_dup hV rfl rfl (pc' := 53) rfl ?_
    refine tt_getI hV (tg := 0) (ci := 8) (kf := 7) rfl rfl (by decide) hs rfl (by decide) (pc' := 56) rfl ?_
    refine vtI (y := m s 7) (g2 7 (by decide)) ?_
    refine tt_iconst hV rfl (pc' := 57) rfl ?_
    refine tt_iadd hV rfl (pc' := 58) rfl ?_
    refine tt_putI hV (tg := 0) (ci := 8) (kf := 7) rfl rfl (Or.inl rfl) hs rfl (by decide) rfl (pc' := 61) rfl ?_
    refine nmM (fun m58 hm58 => ?_)
    refine r_aload_n hV rfl rfl (pc' := 62) rfl ?_
    refine tt_iconst hV rfl (pc' := 63) rfl ?_
    refine tt_putI hV (tg := 0) (ci := 7) (kf := 3) rfl rfl (Or.inl rfl) (hB _ _ rfl) rfl (by decide) rfl (pc' := 66) rfl ?_
    refine nmM (fun m63 hm63 => ?_)
    refine r_aload_n hV rfl rfl (pc' := 67) rfl ?_
    refine r_aload_n hV rfl rfl (pc' := 68) rfl ?_
    refine tt_getP hV (tg := 0) (ci := 7) (kf := 0) rfl rfl (by decide) (hB _ _ rfl) rfl (by decide) (b := c) (((rdN hm63 (by decide)).trans ((rdA hm58 (by omega)).trans g4)).trans h18) (pc' := 71) rfl ?_
    refine r_aload_n hV rfl rfl (pc' := 72) rfl ?_
    refine tt_getI hV (tg := 0) (ci := 8) (kf := 7) rfl rfl (by decide) hs rfl (by decide) (pc' := 75) rfl ?_
    refine vtI (y := m s 7 + 1) ((rdA hm63 (by omega)).trans (rdS hm58)) ?_
    refine r_aload_n hV rfl rfl (pc' := 76) rfl ?_
    refine tt_getI hV (tg := 0) (ci := 8) (kf := 8) rfl rfl (by decide) hs rfl (by decide) (pc' := 79) rfl ?_
    refine vtI (y := c1) ((rdA hm63 (by omega)).trans ((rdN hm58 (by decide)).trans g1)) ?_
    refine tt_cv2I hV rfl rfl rfl (Wd_obj hc.1) (Nat.le_of_ble_eq_true rfl) (Nat.le_of_ble_eq_true rfl) rfl (c_bumpAt xs fv _ _ hc (hck.fr ((rdAf hm63 (by omega)).trans ((rdAf hm58 (by omega)).trans (g6 c (by simp <;> omega)))) ((rdAf hm63 (by omega)).trans ((rdAf hm58 (by omega)).trans (g6 (c + 1) (by simp <;> omega)))) ((rdAf hm63 (by omega)).trans ((rdAf hm58 (by omega)).trans (g6 (c + 2) (by simp <;> omega))))) hK (by omega) (by omega)) (pc' := 82) rfl ?_
    refine vtI (y := b) (by rw [hb, hc1, eq7]; rfl) ?_
    refine tt_putI hV (tg := 0) (ci := 7) (kf := 4) rfl rfl (Or.inl rfl) (hB _ _ rfl) rfl (by decide) rfl (pc' := 85) rfl ?_
    refine nmM (fun m82 hm82 => ?_)
    refine r_aload_n hV rfl rfl (pc' := 86) rfl ?_
    refine tt_getI hV (tg := 0) (ci := 7) (kf := 4) rfl rfl (by decide) (hB _ _ rfl) rfl (by decide) (pc' := 89) rfl ?_
    refine vtI (y := b) (rdS hm82) ?_
    refine tt_iconst hV rfl (pc' := 90) rfl ?_
    refine tt_icmp_eq hV rfl (by omega) (by omega) (pt := 141) (by decide) (pf := 93) rfl (fun h90 => ?_) (fun h90 => ?_)
    · have hno : ¬ (b ≠ -1 ∧ bit (q 19) b = 0) := by unfold bit at *; omega
      have hfe : fellA K wt pf q = 0 := by unfold fellA; rw [← hb, if_neg hno]
      have hcl : colA2 K wt pf q = c1 := by unfold colA2; rw [← hb, if_neg hno, hc1]
      refine ru0_ret (q := mI81) rfl rfl rfl ?_
      rw [hQe]
      refine ⟨hS.slide hn.2 ?_ ?_ ?_ ?_ ?_ ?_ ?_ ?_ ?_ ?_, ((rdA hm82 (by omega)).trans ((rdA hm63 (by omega)).trans ((rdN hm58 (by decide)).trans (g2 10 (by decide))))), ((rdN hm82 (by decide)).trans ((rdN hm63 (by decide)).trans ((rdA hm58 (by omega)).trans g3))), ?_, ?_, ((rdN hm82 (by decide)).trans ((rdN hm63 (by decide)).trans ((rdA hm58 (by omega)).trans g4))), ((rdN hm82 (by decide)).trans ((rdN hm63 (by decide)).trans ((rdA hm58 (by omega)).trans g5))), (frUp hm82 (frUp hm63 (frUp hm58 g6 (by simp)) (by simp)) (by simp))⟩
      · exact ((rdA hm82 (by omega)).trans ((rdA hm63 (by omega)).trans ((rdN hm58 (by decide)).trans (g2 0 (by decide)))))
      · exact ((rdA hm82 (by omega)).trans ((rdA hm63 (by omega)).trans ((rdN hm58 (by decide)).trans (g2 1 (by decide)))))
      · exact ((rdA hm82 (by omega)).trans ((rdA hm63 (by omega)).trans ((rdN hm58 (by decide)).trans (g2 2 (by decide)))))
      · exact ((rdA hm82 (by omega)).trans ((rdA hm63 (by omega)).trans ((rdN hm58 (by decide)).trans (g2 3 (by decide)))))
      · rw [hfe, Int.sub_zero]
        exact ((rdA hm82 (by omega)).trans ((rdA hm63 (by omega)).trans ((rdN hm58 (by decide)).trans (g2 4 (by decide)))))
      · exact ((rdA hm82 (by omega)).trans ((rdA hm63 (by omega)).trans ((rdN hm58 (by decide)).trans (g2 5 (by decide)))))
      · exact ((rdA hm82 (by omega)).trans ((rdA hm63 (by omega)).trans ((rdN hm58 (by decide)).trans (g2 6 (by decide)))))
      · exact ((rdA hm82 (by omega)).trans ((rdA hm63 (by omega)).trans (rdS hm58)))
      · rw [hcl]
        exact ((rdA hm82 (by omega)).trans ((rdA hm63 (by omega)).trans ((rdN hm58 (by decide)).trans g1)))
      · exact ((rdA hm82 (by omega)).trans ((rdA hm63 (by omega)).trans ((rdN hm58 (by decide)).trans (g2 9 (by decide)))))
      · rw [hfe]
        exact ((rdN hm82 (by decide)).trans (rdS hm63))
      · rw [← hb]
        exact (rdS hm82)
    · have hkb := hK.2.2.2.2.2.2.2.2 b (by omega) (by omega)
      refine r_aload_n hV rfl rfl (pc' := 94) rfl ?_
      refine tt_getI hV (tg := 0) (ci := 8) (kf := 5) rfl rfl (by decide) hs rfl (by decide) (pc' := 97) rfl ?_
      refine vtI (y := m s 5) ((rdA hm82 (by omega)).trans ((rdA hm63 (by omega)).trans ((rdN hm58 (by decide)).trans (g2 5 (by decide))))) ?_
      refine r_aload_n hV rfl rfl (pc' := 98) rfl ?_
      refine tt_getI hV (tg := 0) (ci := 7) (kf := 4) rfl rfl (by decide) (hB _ _ rfl) rfl (by decide) (pc' := 101) rfl ?_
      refine vtI (y := b) (rdS hm82) ?_
      refine tt_ishr hV rfl (pc' := 102) rfl ?_
      refine tt_iconst hV rfl (pc' := 103) rfl ?_
      refine tt_iand hV rfl (pc' := 104) rfl ?_
      refine tt_if_ne hV rfl (i32R _) (pt := 141) (by decide) (pf := 107) rfl (fun h104 => ?_) (fun h104 => ?_)
      · have hno : ¬ (b ≠ -1 ∧ bit (q 19) b = 0) := by unfold bit at *; omega
        have hfe : fellA K wt pf q = 0 := by unfold fellA; rw [← hb, if_neg hno]
        have hcl : colA2 K wt pf q = c1 := by unfold colA2; rw [← hb, if_neg hno, hc1]
        refine ru0_ret (q := mI81) rfl rfl rfl ?_
        rw [hQe]
        refine ⟨hS.slide hn.2 ?_ ?_ ?_ ?_ ?_ ?_ ?_ ?_ ?_ ?_, ((rdA hm82 (by omega)).trans ((rdA hm63 (by omega)).trans ((rdN hm58 (by decide)).trans (g2 10 (by decide))))), ((rdN hm82 (by decide)).trans ((rdN hm63 (by decide)).trans ((rdA hm58 (by omega)).trans g3))), ?_, ?_, ((rdN hm82 (by decide)).trans ((rdN hm63 (by decide)).trans ((rdA hm58 (by omega)).trans g4))), ((rdN hm82 (by decide)).trans ((rdN hm63 (by decide)).trans ((rdA hm58 (by omega)).trans g5))), (frUp hm82 (frUp hm63 (frUp hm58 g6 (by simp)) (by simp)) (by simp))⟩
        · exact ((rdA hm82 (by omega)).trans ((rdA hm63 (by omega)).trans ((rdN hm58 (by decide)).trans (g2 0 (by decide)))))
        · exact ((rdA hm82 (by omega)).trans ((rdA hm63 (by omega)).trans ((rdN hm58 (by decide)).trans (g2 1 (by decide)))))
        · exact ((rdA hm82 (by omega)).trans ((rdA hm63 (by omega)).trans ((rdN hm58 (by decide)).trans (g2 2 (by decide)))))
        · exact ((rdA hm82 (by omega)).trans ((rdA hm63 (by omega)).trans ((rdN hm58 (by decide)).trans (g2 3 (by decide)))))
        · rw [hfe, Int.sub_zero]
          exact ((rdA hm82 (by omega)).trans ((rdA hm63 (by omega)).trans ((rdN hm58 (by decide)).trans (g2 4 (by decide)))))
        · exact ((rdA hm82 (by omega)).trans ((rdA hm63 (by omega)).trans ((rdN hm58 (by decide)).trans (g2 5 (by decide)))))
        · exact ((rdA hm82 (by omega)).trans ((rdA hm63 (by omega)).trans ((rdN hm58 (by decide)).trans (g2 6 (by decide)))))
        · exact ((rdA hm82 (by omega)).trans ((rdA hm63 (by omega)).trans (rdS hm58)))
        · rw [hcl]
          exact ((rdA hm82 (by omega)).trans ((rdA hm63 (by omega)).trans ((rdN hm58 (by decide)).trans g1)))
        · exact ((rdA hm82 (by omega)).trans ((rdA hm63 (by omega)).trans ((rdN hm58 (by decide)).trans (g2 9 (by decide)))))
        · rw [hfe]
          exact ((rdN hm82 (by decide)).trans (rdS hm63))
        · rw [← hb]
          exact (rdS hm82)
      · refine r_aload_n hV rfl rfl (pc' := 108) rfl ?_
        refine r_aload_n hV rfl rfl (pc' := 109) rfl ?_
        refine r_aload_n hV rfl rfl (pc' := 110) rfl ?_
        refine tt_getP hV (tg := 0) (ci := 7) (kf := 0) rfl rfl (by decide) (hB _ _ rfl) rfl (by decide) (b := c) (((rdN hm82 (by decide)).trans ((rdN hm63 (by decide)).trans ((rdA hm58 (by omega)).trans g4))).trans h18) (pc' := 113) rfl ?_
        refine r_aload_n hV rfl rfl (pc' := 114) rfl ?_
        refine tt_getI hV (tg := 0) (ci := 7) (kf := 4) rfl rfl (by decide) (hB _ _ rfl) rfl (by decide) (pc' := 117) rfl ?_
        refine vtI (y := b) (rdS hm82) ?_
        refine tt_iconst hV rfl (pc' := 118) rfl ?_
        refine tt_cv2I hV rfl rfl rfl (Wd_obj hc.1) (Nat.le_of_ble_eq_true rfl) (Nat.le_of_ble_eq_true rfl) rfl (c_ofBump xs fv _ _ hc (by omega)) (pc' := 121) rfl ?_
        refine vtI (y := kB K (4 * b + 2)) ((hck.fr ((rdAf hm82 (by omega)).trans ((rdAf hm63 (by omega)).trans ((rdAf hm58 (by omega)).trans (g6 c (by simp <;> omega))))) ((rdAf hm82 (by omega)).trans ((rdAf hm63 (by omega)).trans ((rdAf hm58 (by omega)).trans (g6 (c + 1) (by simp <;> omega))))) ((rdAf hm82 (by omega)).trans ((rdAf hm63 (by omega)).trans ((rdAf hm58 (by omega)).trans (g6 (c + 2) (by simp <;> omega)))))).2.2.2.2 (4 * b + 2) (by omega) (by omega)) ?_
        obtain ⟨m121, ⟨ha121, hb121, hc121, hd121, hf121⟩, hr121⟩ := c_throwOff xs fv _ _ (m := m82) hB hcc hso hs (((rdN hm82 (by decide)).trans ((rdN hm63 (by decide)).trans ((rdA hm58 (by omega)).trans g4))).trans h18) (hck.fr ((rdAf hm82 (by omega)).trans ((rdAf hm63 (by omega)).trans ((rdAf hm58 (by omega)).trans (g6 c (by simp <;> omega))))) ((rdAf hm82 (by omega)).trans ((rdAf hm63 (by omega)).trans ((rdAf hm58 (by omega)).trans (g6 (c + 1) (by simp <;> omega))))) ((rdAf hm82 (by omega)).trans ((rdAf hm63 (by omega)).trans ((rdAf hm58 (by omega)).trans (g6 (c + 2) (by simp <;> omega)))))) hK (q := q) (kick := kB K (4 * b + 2)) (by omega) (fun k q1 q2 => by rw [((rdA hm82 (by omega)).trans ((rdA hm63 (by omega)).trans ((rdN hm58 (by decide)).trans (g2 2 (by decide)))))]; exact (hS.1 k q1 q2).2.2.1) (((rdA hm82 (by omega)).trans ((rdA hm63 (by omega)).trans ((rdN hm58 (by decide)).trans (g2 4 (by decide))))).trans hS.2.1) hof ((rdN hm82 (by decide)).trans (rdS hm63))
        rw [((rdA hm82 (by omega)).trans ((rdA hm63 (by omega)).trans ((rdN hm58 (by decide)).trans (g2 4 (by decide)))))] at hc121
        refine tt_cv2U hV rfl rfl rfl (Wd_obj (hB _ _ rfl)) (Nat.le_of_ble_eq_true rfl) (Nat.le_of_ble_eq_true rfl) rfl hr121 (pc' := 124) rfl ?_
        refine r_aload_n hV rfl rfl (pc' := 125) rfl ?_
        refine r_aload_n hV rfl rfl (pc' := 126) rfl ?_
        refine r_aload_n hV rfl rfl (pc' := 127) rfl ?_
        refine tt_getP hV (tg := 0) (ci := 7) (kf := 0) rfl rfl (by decide) (hB _ _ rfl) rfl (by decide) (b := c) (((hb121 0 (by decide)).trans ((rdN hm82 (by decide)).trans ((rdN hm63 (by decide)).trans ((rdA hm58 (by omega)).trans g4)))).trans h18) (pc' := 130) rfl ?_
        refine r_aload_n hV rfl rfl (pc' := 131) rfl ?_
        refine tt_getI hV (tg := 0) (ci := 7) (kf := 4) rfl rfl (by decide) (hB _ _ rfl) rfl (by decide) (pc' := 134) rfl ?_
        refine vtI (y := b) ((hb121 4 (by decide)).trans (rdS hm82)) ?_
        refine tt_iconst hV rfl (pc' := 135) rfl ?_
        refine tt_cv2I hV rfl rfl rfl (Wd_obj hc.1) (Nat.le_of_ble_eq_true rfl) (Nat.le_of_ble_eq_true rfl) rfl (c_ofBump xs fv _ _ hc (by omega)) (pc' := 138) rfl ?_
        refine vtI (y := kB K (4 * b + 3)) ((hck.fr ((hf121 c (by simp <;> omega)).trans ((rdAf hm82 (by omega)).trans ((rdAf hm63 (by omega)).trans ((rdAf hm58 (by omega)).trans (g6 c (by simp <;> omega)))))) ((hf121 (c + 1) (by simp <;> omega)).trans ((rdAf hm82 (by omega)).trans ((rdAf hm63 (by omega)).trans ((rdAf hm58 (by omega)).trans (g6 (c + 1) (by simp <;> omega)))))) ((hf121 (c + 2) (by simp <;> omega)).trans ((rdAf hm82 (by omega)).trans ((rdAf hm63 (by omega)).trans ((rdAf hm58 (by omega)).trans (g6 (c + 2) (by simp <;> omega))))))).2.2.2.2 (4 * b + 3) (by omega) (by omega)) ?_
        obtain ⟨m138, ⟨ha138, hb138, hf138⟩, hr138⟩ := c_shift xs fv _ _ (m := m121) hB hcc hso hs (((hb121 0 (by decide)).trans ((rdN hm82 (by decide)).trans ((rdN hm63 (by decide)).trans ((rdA hm58 (by omega)).trans g4)))).trans h18) (hck.fr ((hf121 c (by simp <;> omega)).trans ((rdAf hm82 (by omega)).trans ((rdAf hm63 (by omega)).trans ((rdAf hm58 (by omega)).trans (g6 c (by simp <;> omega)))))) ((hf121 (c + 1) (by simp <;> omega)).trans ((rdAf hm82 (by omega)).trans ((rdAf hm63 (by omega)).trans ((rdAf hm58 (by omega)).trans (g6 (c + 1) (by simp <;> omega)))))) ((hf121 (c + 2) (by simp <;> omega)).trans ((rdAf hm82 (by omega)).trans ((rdAf hm63 (by omega)).trans ((rdAf hm58 (by omega)).trans (g6 (c + 2) (by simp <;> omega))))))) hK (side := kB K (4 * b + 3)) (by omega) (by rw [((hd121 8 (by decide)).trans ((rdA hm82 (by omega)).trans ((rdA hm63 (by omega)).trans ((rdN hm58 (by decide)).trans g1))))]; omega)
        rw [((hd121 8 (by decide)).trans ((rdA hm82 (by omega)).trans ((rdA hm63 (by omega)).trans ((rdN hm58 (by decide)).trans g1))))] at ha138
        refine tt_cv2U hV rfl rfl rfl (Wd_obj (hB _ _ rfl)) (Nat.le_of_ble_eq_true rfl) (Nat.le_of_ble_eq_true rfl) rfl hr138 (pc' := 141) rfl ?_
        have hyes : b ≠ -1 ∧ bit (q 19) b = 0 := by unfold bit at *; omega
        have hfe : fellA K wt pf q = fellTo q (kB K (4 * b + 2)) (kNm K).toNat := by unfold fellA; rw [← hb, if_pos hyes]
        have hcl : colA2 K wt pf q = asideA (kR K 0) c1 (if kB K (4 * b + 3) = 1 then 1 else -1) := by unfold colA2; rw [← hb, if_pos hyes, hc1]
        refine ru0_ret (q := mI81) rfl rfl rfl ?_
        rw [hQe]
        refine ⟨hS.slide hn.2 ?_ ?_ ?_ ?_ ?_ ?_ ?_ ?_ ?_ ?_, ((hb138 10 (by decide)).trans ((hd121 10 (by decide)).trans ((rdA hm82 (by omega)).trans ((rdA hm63 (by omega)).trans ((rdN hm58 (by decide)).trans (g2 10 (by decide))))))), ((rdF hf138 (by simp <;> omega)).trans ((hb121 2 (by decide)).trans ((rdN hm82 (by decide)).trans ((rdN hm63 (by decide)).trans ((rdA hm58 (by omega)).trans g3))))), ?_, ?_, ((rdF hf138 (by simp <;> omega)).trans ((hb121 0 (by decide)).trans ((rdN hm82 (by decide)).trans ((rdN hm63 (by decide)).trans ((rdA hm58 (by omega)).trans g4))))), ((rdF hf138 (by simp <;> omega)).trans ((hb121 1 (by decide)).trans ((rdN hm82 (by decide)).trans ((rdN hm63 (by decide)).trans ((rdA hm58 (by omega)).trans g5))))), (((frUp hm82 (frUp hm63 (frUp hm58 g6 (by simp)) (by simp)) (by simp)).tr (hf121.wd (by simp <;> omega))).tr (hf138.wd (by simp <;> omega)))⟩
        · exact ((hb138 0 (by decide)).trans ((hd121 0 (by decide)).trans ((rdA hm82 (by omega)).trans ((rdA hm63 (by omega)).trans ((rdN hm58 (by decide)).trans (g2 0 (by decide)))))))
        · exact ((hb138 1 (by decide)).trans ((hd121 1 (by decide)).trans ((rdA hm82 (by omega)).trans ((rdA hm63 (by omega)).trans ((rdN hm58 (by decide)).trans (g2 1 (by decide)))))))
        · exact ((hb138 2 (by decide)).trans ((hd121 2 (by decide)).trans ((rdA hm82 (by omega)).trans ((rdA hm63 (by omega)).trans ((rdN hm58 (by decide)).trans (g2 2 (by decide)))))))
        · exact ((hb138 3 (by decide)).trans ((hd121 3 (by decide)).trans ((rdA hm82 (by omega)).trans ((rdA hm63 (by omega)).trans ((rdN hm58 (by decide)).trans (g2 3 (by decide)))))))
        · rw [hfe]
          exact ((hb138 4 (by decide)).trans hc121)
        · exact ((hb138 5 (by decide)).trans ((hd121 5 (by decide)).trans ((rdA hm82 (by omega)).trans ((rdA hm63 (by omega)).trans ((rdN hm58 (by decide)).trans (g2 5 (by decide)))))))
        · exact ((hb138 6 (by decide)).trans ((hd121 6 (by decide)).trans ((rdA hm82 (by omega)).trans ((rdA hm63 (by omega)).trans ((rdN hm58 (by decide)).trans (g2 6 (by decide)))))))
        · exact ((hb138 7 (by decide)).trans ((hd121 7 (by decide)).trans ((rdA hm82 (by omega)).trans ((rdA hm63 (by omega)).trans (rdS hm58)))))
        · rw [hcl, ha138]
          congr 1
          omega
        · exact ((hb138 9 (by decide)).trans ((hd121 9 (by decide)).trans ((rdA hm82 (by omega)).trans ((rdA hm63 (by omega)).trans ((rdN hm58 (by decide)).trans (g2 9 (by decide)))))))
        · rw [hfe]
          exact ((rdF hf138 (by simp <;> omega)).trans ha121)
        · rw [← hb]
          exact ((rdF hf138 (by simp <;> omega)).trans ((hb121 4 (by decide)).trans (rdS hm82)))
  refine r_aload_n hV rfl rfl (pc' := 1) rfl ?_
  refine tt_getP hV (tg := 0) (ci := 7) (kf := 0) rfl rfl (by decide) (hB _ _ rfl) rfl (by decide) (b := c) h18 (pc' := 4) rfl ?_
  refine tt_getR hV (tg := 10) (ci := 0) (kf := 0) rfl rfl (by decide) hc.1 rfl (by decide) (pc' := 7) rfl ?_
  refine tt_iconst hV rfl (pc' := 8) rfl ?_
  refine tt_iald hV rfl hc.2.1 (by decide) (by omega) (pc' := 9) rfl ?_
  refine tt_istore2 hV rfl rfl (pc' := 10) rfl ?_
  refine r_aload_n hV rfl rfl (pc' := 11) rfl ?_
  refine r_aload_n hV rfl rfl (pc' := 12) rfl ?_
  refine r_aload_n hV rfl rfl (pc' := 13) rfl ?_
  obtain ⟨v13, m13, ⟨hv13, hf13⟩, hr13⟩ := c_sumOf xs fv d n hB hcc hso hs h18 hck hK hP hp hS hQ hW
  refine tt_cv1I hV rfl rfl rfl (Wd_obj (hB _ _ rfl)) (Nat.le_of_ble_eq_true rfl) (Nat.le_of_ble_eq_true rfl) rfl hr13 (pc' := 16) rfl ?_
  refine tt_putI hV (tg := 0) (ci := 7) (kf := 2) rfl rfl (Or.inl rfl) (hB _ _ rfl) rfl (by decide) rfl (pc' := 19) rfl ?_
  refine nmM (fun m16 hm16 => ?_)
  refine r_aload_n hV rfl rfl (pc' := 20) rfl ?_
  refine tt_getI hV (tg := 0) (ci := 7) (kf := 2) rfl rfl (by decide) (hB _ _ rfl) rfl (by decide) (pc' := 23) rfl ?_
  refine vtI (y := v13) (rdS hm16) ?_
  refine r_iload_n hV rfl rfl (pc' := 24) rfl ?_
  refine tt_icmp_lt hV rfl (by omega) (by omega) (pt := 36) (by decide) (pf := 27) rfl (fun h24 => ?_) (fun h24 => ?_)
  · refine r_aload_n hV rfl rfl (pc' := 37) rfl ?_
    refine tt_getI hV (tg := 0) (ci := 7) (kf := 2) rfl rfl (by decide) (hB _ _ rfl) rfl (by decide) (pc' := 40) rfl ?_
    refine vtI (y := v13) (rdS hm16) ?_
    refine r_iload_n hV rfl rfl (pc' := 41) rfl ?_
    refine tt_ineg hV rfl (pc' := 42) rfl ?_
    refine tt_icmp_gt hV rfl (by omega) (by omega) (pt := 51) (by decide) (pf := 45) rfl (fun h42 => ?_) (fun h42 => ?_)
    · exact J51 m16 _ (by rw [((rdA hm16 (by omega)).trans (rdF hf13 (by simp <;> omega))), hc1, eq8]; unfold colA1; rw [if_neg (by omega), if_neg (by omega)]; unfold asideA; omega) (fun k hk => (rdA hm16 (by omega)).trans (rdF hf13 (by simp <;> omega))) ((rdS hm16).trans hv13) ((rdN hm16 (by decide)).trans (rdF hf13 (by decide))) ((rdN hm16 (by decide)).trans (rdF hf13 (by decide))) (frUp hm16 (hf13.wd (by simp <;> omega)) (by simp))
    · refine r_aload_n hV rfl rfl (pc' := 46) rfl ?_
      refine r_aload_n hV rfl rfl (pc' := 47) rfl ?_
      refine tt_iconst hV rfl (pc' := 48) rfl ?_
      obtain ⟨m48, ⟨ha48, hb48, hf48⟩, hr48⟩ := c_shift xs fv _ _ (m := m16) hB hcc hso hs (((rdN hm16 (by decide)).trans (rdF hf13 (by decide))).trans h18) (hck.fr ((rdAf hm16 (by omega)).trans (hf13 c (by simp <;> omega))) ((rdAf hm16 (by omega)).trans (hf13 (c + 1) (by simp <;> omega))) ((rdAf hm16 (by omega)).trans (hf13 (c + 2) (by simp <;> omega)))) hK (side := 0) (by omega) (by rw [((rdA hm16 (by omega)).trans (rdF hf13 (by simp <;> omega)))]; omega)
      rw [((rdA hm16 (by omega)).trans (rdF hf13 (by simp <;> omega)))] at ha48
      refine tt_cv2U hV rfl rfl rfl (Wd_obj (hB _ _ rfl)) (Nat.le_of_ble_eq_true rfl) (Nat.le_of_ble_eq_true rfl) rfl hr48 (pc' := 51) rfl ?_
      exact J51 m48 _ (by rw [ha48, hc1, eq8]; unfold colA1; congr 1; omega) (fun k hk => (hb48 k hk).trans ((rdA hm16 (by omega)).trans (rdF hf13 (by simp <;> omega)))) (((rdF hf48 (by simp <;> omega)).trans (rdS hm16)).trans hv13) ((rdF hf48 (by simp <;> omega)).trans ((rdN hm16 (by decide)).trans (rdF hf13 (by decide)))) ((rdF hf48 (by simp <;> omega)).trans ((rdN hm16 (by decide)).trans (rdF hf13 (by decide)))) ((frUp hm16 (hf13.wd (by simp <;> omega)) (by simp)).tr (hf48.wd (by simp <;> omega)))
  · refine r_aload_n hV rfl rfl (pc' := 28) rfl ?_
    refine r_aload_n hV rfl rfl (pc' := 29) rfl ?_
    refine tt_iconst hV rfl (pc' := 30) rfl ?_
    obtain ⟨m30, ⟨ha30, hb30, hf30⟩, hr30⟩ := c_shift xs fv _ _ (m := m16) hB hcc hso hs (((rdN hm16 (by decide)).trans (rdF hf13 (by decide))).trans h18) (hck.fr ((rdAf hm16 (by omega)).trans (hf13 c (by simp <;> omega))) ((rdAf hm16 (by omega)).trans (hf13 (c + 1) (by simp <;> omega))) ((rdAf hm16 (by omega)).trans (hf13 (c + 2) (by simp <;> omega)))) hK (side := 1) (by omega) (by rw [((rdA hm16 (by omega)).trans (rdF hf13 (by simp <;> omega)))]; omega)
    rw [((rdA hm16 (by omega)).trans (rdF hf13 (by simp <;> omega)))] at ha30
    refine tt_cv2U hV rfl rfl rfl (Wd_obj (hB _ _ rfl)) (Nat.le_of_ble_eq_true rfl) (Nat.le_of_ble_eq_true rfl) rfl hr30 (pc' := 33) rfl ?_
    refine r_goto hV rfl (pc' := 51) (by decide) ?_
    exact J51 m30 _ (by rw [ha30, hc1, eq8]; unfold colA1; congr 1; omega) (fun k hk => (hb30 k hk).trans ((rdA hm16 (by omega)).trans (rdF hf13 (by simp <;> omega)))) (((rdF hf30 (by simp <;> omega)).trans (rdS hm16)).trans hv13) ((rdF hf30 (by simp <;> omega)).trans ((rdN hm16 (by decide)).trans (rdF hf13 (by decide)))) ((rdF hf30 (by simp <;> omega)).trans ((rdN hm16 (by decide)).trans (rdF hf13 (by decide)))) ((frUp hm16 (hf13.wd (by simp <;> omega)) (by simp)).tr (hf30.wd (by simp <;> omega)))
theorem c_sideAtEnd (hB : Bsh sh) {c s : Nat} {K : Kn} (hcc : c = 9 ∨ c = 13) (hso : stO s) (hs : sh[s]? = some stS) (h18 : m 18 0 = (c : Int)) (hck : Ck m c K) (hK : Kok K) {wt q : Int → Int} {pf : Pf} (hP : PC xs fv sh n m pf) (hp : Pok pf) (hS : Sr K wt (m s) q) (hQ : Qok K q) (hW : Wok K wt) : Rq (gP xs fv) (d + 8) 84 sh n (fun v m' => v = sideA K (endA K wt pf q 22) ∧ Sr K wt (m' s) (endA K wt pf q) ∧ m' s 10 = m s 10 ∧ m' 18 0 = m 18 0 ∧ m' 18 1 = m 18 1 ∧ Fr [18, 19, 20, s] m m') (0, [some (.ref 18), some (.ref s), none], [], Wd sh m, n) := by
  obtain ⟨T, hT⟩ : ∃ T, T = endA K wt pf q := ⟨_, rfl⟩
  rw [← hT]
  have hc := csh_of hB hcc
  have hwd := hK.2.2.1
  have hrw := hK.2.2.2.2.2.1
  have e0 : m (c + 1) 0 = kR K 0 := hck.2.2.2.1 0 (by omega) (by omega)
  have e3 : m (c + 1) 3 = kR K 3 := hck.2.2.2.1 3 (by omega) (by omega)
  have hV : Clo (gP xs fv) (d + 8) 84 3 false (Rq (gP xs fv) (d + 8) 84 sh n (fun v m' => v = sideA K (T 22) ∧ Sr K wt (m' s) (T) ∧ m' s 10 = m s 10 ∧ m' 18 0 = m 18 0 ∧ m' 18 1 = m 18 1 ∧ Fr [18, 19, 20, s] m m')) := Rq_clo (q := mI84) rfl
  have LP : ∀ (f : Nat) (m1 : Mm) (q1 : Int → Int) (r : Int), Sr K wt (m1 s) q1 → Qok K q1 → m1 s 10 = m s 10 → m1 18 0 = m 18 0 → m1 18 1 = m 18 1 → Fr [18, 19, 20, s] m m1 → r = q1 21 → kR K 3 - r = f → slidesA K wt pf f q1 = T → Rq (gP xs fv) (d + 8) 84 sh n (fun v m' => v = sideA K (T 22) ∧ Sr K wt (m' s) (T) ∧ m' s 10 = m s 10 ∧ m' 18 0 = m 18 0 ∧ m' 18 1 = m 18 1 ∧ Fr [18, 19, 20, s] m m') (5, [some (.ref 18), some (.ref s), some (vI r)], [], Wd sh m1, n) := by
    intro f
    induction f with
    | zero =>
      intro m1 q1 r g1 g2 g3 g4 g5 g6 g7 g8 g9
      have hco := g2.2.2.2.2.2
      have hq : q1 = T := g9
      have eq8 : m1 s 8 = q1 22 := g1.2.2.2.2.2.1
      have f1 : iDv (kR K 0) 2 = kR K 0 / 2 := iDv_e (by omega) (by omega)
      have f2 : iDv (kR K 0 - 1) 2 = (kR K 0 - 1) / 2 := iDv_e (by omega) (by omega)
      refine r_iload_n hV rfl rfl (pc' := 6) rfl ?_
      refine r_aload_n hV rfl rfl (pc' := 7) rfl ?_
      refine tt_getP hV (tg := 0) (ci := 7) (kf := 0) rfl rfl (by decide) (hB _ _ rfl) rfl (by decide) (b := c) (g4.trans h18) (pc' := 10) rfl ?_
      refine tt_cv0I hV rfl rfl rfl (Wd_obj hc.1) (Nat.le_of_ble_eq_true rfl) (Nat.le_of_ble_eq_true rfl) rfl (c_lastRow xs fv _ _ hc) (pc' := 13) rfl ?_
      refine vtI (y := (m (c + 1) 3)) (by rw [(rdF g6 (by simp <;> omega))]) ?_
      refine tt_icmp_ge hV rfl (by omega) (by omega) (pt := 27) (by decide) (pf := 16) rfl (fun h13 => ?_) (fun h13 => absurd (by omega) h13)
      refine r_aload_n hV rfl rfl (pc' := 28) rfl ?_
      refine tt_getP hV (tg := 0) (ci := 7) (kf := 0) rfl rfl (by decide) (hB _ _ rfl) rfl (by decide) (b := c) (g4.trans h18) (pc' := 31) rfl ?_
      refine tt_getR hV (tg := 10) (ci := 0) (kf := 0) rfl rfl (by decide) hc.1 rfl (by decide) (pc' := 34) rfl ?_
      refine tt_iconst hV rfl (pc' := 35) rfl ?_
      refine tt_iald hV rfl hc.2.1 (by decide) (by omega) (pc' := 36) rfl ?_
      refine vtI (y := m (c + 1) 0) (rdF g6 (by simp <;> omega)) ?_
      rw [e0]
      refine tt_istore2 hV rfl rfl (pc' := 37) rfl ?_
      refine r_aload_n hV rfl rfl (pc' := 38) rfl ?_
      refine tt_getI hV (tg := 0) (ci := 8) (kf := 8) rfl rfl (by decide) hs rfl (by decide) (pc' := 41) rfl ?_
      refine r_iload_n hV rfl rfl (pc' := 42) rfl ?_
      refine tt_iconst hV rfl (pc' := 43) rfl ?_
      refine tt_idiv hV rfl (by decide) (pc' := 44) rfl ?_
      refine tt_icmp_ge hV rfl (by omega) (i32R _) (pt := 49) (by decide) (pf := 47) rfl (fun h44 => ?_) (fun h44 => ?_)
      · refine r_aload_n hV rfl rfl (pc' := 50) rfl ?_
        refine tt_getI hV (tg := 0) (ci := 8) (kf := 8) rfl rfl (by decide) hs rfl (by decide) (pc' := 53) rfl ?_
        refine r_iload_n hV rfl rfl (pc' := 54) rfl ?_
        refine tt_iconst hV rfl (pc' := 55) rfl ?_
        refine tt_isub hV rfl (pc' := 56) rfl ?_
        refine tt_iconst hV rfl (pc' := 57) rfl ?_
        refine tt_idiv hV rfl (by decide) (pc' := 58) rfl ?_
        refine tt_icmp_le hV rfl (by omega) (i32R _) (pt := 65) (by decide) (pf := 61) rfl (fun h58 => ?_) (fun h58 => ?_)
        · refine tt_iconst hV rfl (pc' := 66) rfl ?_
          refine rq_ret (q := mI84) rfl rfl rfl ⟨?_, by rw [← hq]; exact g1, g3, g4, g5, g6⟩
          rw [← hq]
          unfold sideA
          omega
        · refine tt_iconst hV rfl (pc' := 62) rfl ?_
          refine r_goto hV rfl (pc' := 66) (by decide) ?_
          refine rq_ret (q := mI84) rfl rfl rfl ⟨?_, by rw [← hq]; exact g1, g3, g4, g5, g6⟩
          rw [← hq]
          unfold sideA
          omega
      · refine tt_iconst hV rfl (pc' := 48) rfl ?_
        refine rq_ret (q := mI84) rfl rfl rfl ⟨?_, by rw [← hq]; exact g1, g3, g4, g5, g6⟩
        rw [← hq]
        unfold sideA
        omega
    | succ f ih =>
      intro m1 q1 r g1 g2 g3 g4 g5 g6 g7 g8 g9
      have hro := g2.2.2.2.2.1
      refine r_iload_n hV rfl rfl (pc' := 6) rfl ?_
      refine r_aload_n hV rfl rfl (pc' := 7) rfl ?_
      refine tt_getP hV (tg := 0) (ci := 7) (kf := 0) rfl rfl (by decide) (hB _ _ rfl) rfl (by decide) (b := c) (g4.trans h18) (pc' := 10) rfl ?_
      refine tt_cv0I hV rfl rfl rfl (Wd_obj hc.1) (Nat.le_of_ble_eq_true rfl) (Nat.le_of_ble_eq_true rfl) rfl (c_lastRow xs fv _ _ hc) (pc' := 13) rfl ?_
      refine vtI (y := (m (c + 1) 3)) (by rw [(rdF g6 (by simp <;> omega))]) ?_
      refine tt_icmp_ge hV rfl (by omega) (by omega) (pt := 27) (by decide) (pf := 16) rfl (fun h13 => absurd h13 (by omega)) (fun h13 => ?_)
      refine r_aload_n hV rfl rfl (pc' := 17) rfl ?_
      refine r_aload_n hV rfl rfl (pc' := 18) rfl ?_
      obtain ⟨m18, ⟨ha18, hb18, -, -, -, hg18, hh18, hf18⟩, hr18⟩ := c_step xs fv d n (m := m1) hB hcc hso hs (g4.trans h18) (hck.fr (g6 c (by simp <;> omega)) (g6 (c + 1) (by simp <;> omega)) (g6 (c + 2) (by simp <;> omega))) hK (hP.ls (Lsc.of g6 (by simp <;> omega) g5)) hp g1 g2 hW
      refine tt_cv1U hV rfl rfl rfl (Wd_obj (hB _ _ rfl)) (Nat.le_of_ble_eq_true rfl) (Nat.le_of_ble_eq_true rfl) rfl hr18 (pc' := 21) rfl ?_
      refine tt_iinc2 hV rfl rfl (pc' := 24) rfl ?_
      refine r_goto hV rfl (pc' := 5) (by decide) ?_
      exact ih m18 _ _ ha18 (slideA_ok hK g2 (by omega)) (hb18.trans g3) (hg18.trans g4) (hh18.trans g5) (g6.tr hf18) (by rw [g7]; rfl) (by omega) g9
  have eq7 : m s 7 = q 21 := hS.2.2.2.2.1
  have hro := hQ.2.2.2.2.1
  refine r_aload_n hV rfl rfl (pc' := 1) rfl ?_
  refine tt_getI hV (tg := 0) (ci := 8) (kf := 7) rfl rfl (by decide) hs rfl (by decide) (pc' := 4) rfl ?_
  refine tt_istore2 hV rfl rfl (pc' := 5) rfl ?_
  exact LP (kR K 3 - q 21).toNat m q _ hS hQ rfl rfl rfl (Fr.rf _ _) eq7 (by omega) hT.symm
theorem c_everyone (hB : Bsh sh) {c : Nat} {K : Kn} (hcc : c = 9 ∨ c = 13) (h18 : m 18 0 = (c : Int)) (hck : Ck m c K) (hK : Kok K) : Ru (gP xs fv) d 85 (some (vI (pw (kNm K) - 1)), Wd sh m, n) (0, [some (.ref 18)], [], Wd sh m, n) := by
  have hc := csh_of hB hcc
  have e4 : m c 4 = kNm K := hck.2.1
  have hn := hK.1
  have hpw := pw_le hn
  have hV : Clo (gP xs fv) d 85 1 false (Ru (gP xs fv) d 85 (some (vI (pw (kNm K) - 1)), Wd sh m, n)) := Ru_clo (q := mI85) rfl
  refine tt_iconst hV rfl (pc' := 1) rfl ?_
  refine r_aload_n hV rfl rfl (pc' := 2) rfl ?_
  refine tt_getP hV (tg := 0) (ci := 7) (kf := 0) rfl rfl (by decide) (hB _ _ rfl) rfl (by decide) (b := c) h18 (pc' := 5) rfl ?_
  refine tt_getI hV (tg := 0) (ci := 0) (kf := 4) rfl rfl (by decide) hc.1 rfl (by decide) (pc' := 8) rfl ?_
  rw [e4]
  refine tt_ishl hV rfl (pc' := 9) rfl ?_
  refine tt_iconst hV rfl (pc' := 10) rfl ?_
  refine tt_isub hV rfl (pc' := 11) rfl ?_
  exact v_ret (q := mI85) rfl rfl rfl (by rw [pw_e (by omega)])
theorem c_copy {s o : Nat} (hne : s ≠ o) (hs : sh[s]? = some stS) (ho : sh[o]? = some stS) : Ru0 (gP xs fv) d 97 sh n (fun m' => (∀ j, 0 ≤ j → j ≤ 10 → m' s j = m o j) ∧ (∀ j, (j < 0 ∨ 10 < j) → m' s j = m s j) ∧ Fr [s] m m') (0, [some (.ref s), some (.ref o)], [], Wd sh m, n) := by
  have hV : Clo (gP xs fv) d 97 2 false (Ru0 (gP xs fv) d 97 sh n (fun m' => (∀ j, 0 ≤ j → j ≤ 10 → m' s j = m o j) ∧ (∀ j, (j < 0 ∨ 10 < j) → m' s j = m s j) ∧ Fr [s] m m')) := Ru0_clo (q := mI97) rfl
  refine r_aload_n hV rfl rfl (pc' := 1) rfl ?_
  refine r_aload_n hV rfl rfl (pc' := 2) rfl ?_
  refine tt_getI hV (tg := 0) (ci := 8) (kf := 0) rfl rfl (by decide) ho rfl (by decide) (pc' := 5) rfl ?_
  refine tt_putI hV (tg := 0) (ci := 8) (kf := 0) rfl rfl (Or.inl rfl) hs rfl (by decide) rfl (pc' := 8) rfl ?_
  refine nmM (fun m5 hm5 => ?_)
  refine r_aload_n hV rfl rfl (pc' := 9) rfl ?_
  refine r_aload_n hV rfl rfl (pc' := 10) rfl ?_
  refine tt_getI hV (tg := 0) (ci := 8) (kf := 1) rfl rfl (by decide) ho rfl (by decide) (pc' := 13) rfl ?_
  refine vtI (y := m o 1) (rdA hm5 (by omega)) ?_
  refine tt_putI hV (tg := 0) (ci := 8) (kf := 1) rfl rfl (Or.inl rfl) hs rfl (by decide) rfl (pc' := 16) rfl ?_
  refine nmM (fun m13 hm13 => ?_)
  refine r_aload_n hV rfl rfl (pc' := 17) rfl ?_
  refine r_aload_n hV rfl rfl (pc' := 18) rfl ?_
  refine tt_getI hV (tg := 0) (ci := 8) (kf := 2) rfl rfl (by decide) ho rfl (by decide) (pc' := 21) rfl ?_
  refine vtI (y := m o 2) ((rdA hm13 (by omega)).trans (rdA hm5 (by omega))) ?_
  refine tt_putI hV (tg := 0) (ci := 8) (kf := 2) rfl rfl (Or.inl rfl) hs rfl (by decide) rfl (pc' := 24) rfl ?_
  refine nmM (fun m21 hm21 => ?_)
  refine r_aload_n hV rfl rfl (pc' := 25) rfl ?_
  refine r_aload_n hV rfl rfl (pc' := 26) rfl ?_
  refine tt_getI hV (tg := 0) (ci := 8) (kf := 3) rfl rfl (by decide) ho rfl (by decide) (pc' := 29) rfl ?_
  refine vtI (y := m o 3) ((rdA hm21 (by omega)).trans ((rdA hm13 (by omega)).trans (rdA hm5 (by omega)))) ?_
  refine tt_putI hV (tg := 0) (ci := 8) (kf := 3) rfl rfl (Or.inl rfl) hs rfl (by decide) rfl (pc' := 32) rfl ?_
  refine nmM (fun m29 hm29 => ?_)
  refine r_aload_n hV rfl rfl (pc' := 33) rfl ?_
  refine r_aload_n hV rfl rfl (pc' := 34) rfl ?_
  refine tt_getI hV (tg := 0) (ci := 8) (kf := 4) rfl rfl (by decide) ho rfl (by decide) (pc' := 37) rfl ?_
  refine vtI (y := m o 4) ((rdA hm29 (by omega)).trans ((rdA hm21 (by omega)).trans ((rdA hm13 (by omega)).trans (rdA hm5 (by omega))))) ?_
  refine tt_putI hV (tg := 0) (ci := 8) (kf := 4) rfl rfl (Or.inl rfl) hs rfl (by decide) rfl (pc' := 40) rfl ?_
  refine nmM (fun m37 hm37 => ?_)
  refine r_aload_n hV rfl rfl (pc' := 41) rfl ?_
  refine r_aload_n hV rfl rfl (pc' := 42) rfl ?_
  refine tt_getI hV (tg := 0) (ci := 8) (kf := 5) rfl rfl (by decide) ho rfl (by decide) (pc' := 45) rfl ?_
  refine vtI (y := m o 5) ((rdA hm37 (by omega)).trans ((rdA hm29 (by omega)).trans ((rdA hm21 (by omega)).trans ((rdA hm13 (by omega)).trans (rdA hm5 (by omega)))))) ?_
  refine tt_putI hV (tg := 0) (ci := 8) (kf := 5) rfl rfl (Or.inl rfl) hs rfl (by decide) rfl (pc' := 48) rfl ?_
  refine nmM (fun m45 hm45 => ?_)
  refine r_aload_n hV rfl rfl (pc' := 49) rfl ?_
  refine r_aload_n hV rfl rfl (pc' := 50) rfl ?_
  refine tt_getI hV (tg := 0) (ci := 8) (kf := 6) rfl rfl (by decide) ho rfl (by decide) (pc' := 53) rfl ?_
  refine vtI (y := m o 6) ((rdA hm45 (by omega)).trans ((rdA hm37 (by omega)).trans ((rdA hm29 (by omega)).trans ((rdA hm21 (by omega)).trans ((rdA hm13 (by omega)).trans (rdA hm5 (by omega))))))) ?_
  refine tt_putI hV (tg := 0) (ci := 8) (kf := 6) rfl rfl (Or.inl rfl) hs rfl (by decide) rfl (pc' := 56) rfl ?_
  refine nmM (fun m53 hm53 => ?_)
  refine r_aload_n hV rfl rfl (pc' := 57) rfl ?_
  refine r_aload_n hV rfl rfl (pc' := 58) rfl ?_
  refine tt_getI hV (tg := 0) (ci := 8) (kf := 7) rfl rfl (by decide) ho rfl (by decide) (pc' := 61) rfl ?_
  refine vtI (y := m o 7) ((rdA hm53 (by omega)).trans ((rdA hm45 (by omega)).trans ((rdA hm37 (by omega)).trans ((rdA hm29 (by omega)).trans ((rdA hm21 (by omega)).trans ((rdA hm13 (by omega)).trans (rdA hm5 (by omega)))))))) ?_
  refine tt_putI hV (tg := 0) (ci := 8) (kf := 7) rfl rfl (Or.inl rfl) hs rfl (by decide) rfl (pc' := 64) rfl ?_
  refine nmM (fun m61 hm61 => ?_)
  refine r_aload_n hV rfl rfl (pc' := 65) rfl ?_
  refine r_aload_n hV rfl rfl (pc' := 66) rfl ?_
  refine tt_getI hV (tg := 0) (ci := 8) (kf := 8) rfl rfl (by decide) ho rfl (by decide) (pc' := 69) rfl ?_
  refine vtI (y := m o 8) ((rdA hm61 (by omega)).trans ((rdA hm53 (by omega)).trans ((rdA hm45 (by omega)).trans ((rdA hm37 (by omega)).trans ((rdA hm29 (by omega)).trans ((rdA hm21 (by omega)).trans ((rdA hm13 (by omega)).trans (rdA hm5 (by omega))))))))) ?_
  refine tt_putI hV (tg := 0) (ci := 8) (kf := 8) rfl rfl (Or.inl rfl) hs rfl (by decide) rfl (pc' := 72) rfl ?_
  refine nmM (fun m69 hm69 => ?_)
  refine r_aload_n hV rfl rfl (pc' := 73) rfl ?_
  refine r_aload_n hV rfl rfl (pc' := 74) rfl ?_
  refine tt_getI hV (tg := 0) (ci := 8) (kf := 9) rfl rfl (by decide) ho rfl (by decide) (pc' := 77) rfl ?_
  refine vtI (y := m o 9) ((rdA hm69 (by omega)).trans ((rdA hm61 (by omega)).trans ((rdA hm53 (by omega)).trans ((rdA hm45 (by omega)).trans ((rdA hm37 (by omega)).trans ((rdA hm29 (by omega)).trans ((rdA hm21 (by omega)).trans ((rdA hm13 (by omega)).trans (rdA hm5 (by omega)))))))))) ?_
  refine tt_putI hV (tg := 0) (ci := 8) (kf := 9) rfl rfl (Or.inl rfl) hs rfl (by decide) rfl (pc' := 80) rfl ?_
  refine nmM (fun m77 hm77 => ?_)
  refine r_aload_n hV rfl rfl (pc' := 81) rfl ?_
  refine r_aload_n hV rfl rfl (pc' := 82) rfl ?_
  refine tt_getI hV (tg := 0) (ci := 8) (kf := 10) rfl rfl (by decide) ho rfl (by decide) (pc' := 85) rfl ?_
  refine vtI (y := m o 10) ((rdA hm77 (by omega)).trans ((rdA hm69 (by omega)).trans ((rdA hm61 (by omega)).trans ((rdA hm53 (by omega)).trans ((rdA hm45 (by omega)).trans ((rdA hm37 (by omega)).trans ((rdA hm29 (by omega)).trans ((rdA hm21 (by omega)).trans ((rdA hm13 (by omega)).trans (rdA hm5 (by omega))))))))))) ?_
  refine tt_putI hV (tg := 0) (ci := 8) (kf := 10) rfl rfl (Or.inl rfl) hs rfl (by decide) rfl (pc' := 88) rfl ?_
  refine nmM (fun m85 hm85 => ?_)
  refine ru0_ret (q := mI97) rfl rfl rfl ⟨?_, ?_, (frUp hm85 (frUp hm77 (frUp hm69 (frUp hm61 (frUp hm53 (frUp hm45 (frUp hm37 (frUp hm29 (frUp hm21 (frUp hm13 (frUp hm5 (Fr.rf _ _) (by simp)) (by simp)) (by simp)) (by simp)) (by simp)) (by simp)) (by simp)) (by simp)) (by simp)) (by simp)) (by simp))⟩
  · intro j h1 h2
    have hj : j = 0 ∨ j = 1 ∨ j = 2 ∨ j = 3 ∨ j = 4 ∨ j = 5 ∨ j = 6 ∨ j = 7 ∨ j = 8 ∨ j = 9 ∨ j = 10 := by omega
    rcases hj with rfl | rfl | rfl | rfl | rfl | rfl | rfl | rfl | rfl | rfl | rfl
    · exact ((rdN hm85 (by decide)).trans ((rdN hm77 (by decide)).trans ((rdN hm69 (by decide)).trans ((rdN hm61 (by decide)).trans ((rdN hm53 (by decide)).trans ((rdN hm45 (by decide)).trans ((rdN hm37 (by decide)).trans ((rdN hm29 (by decide)).trans ((rdN hm21 (by decide)).trans ((rdN hm13 (by decide)).trans (rdS hm5)))))))))))
    · exact ((rdN hm85 (by decide)).trans ((rdN hm77 (by decide)).trans ((rdN hm69 (by decide)).trans ((rdN hm61 (by decide)).trans ((rdN hm53 (by decide)).trans ((rdN hm45 (by decide)).trans ((rdN hm37 (by decide)).trans ((rdN hm29 (by decide)).trans ((rdN hm21 (by decide)).trans (rdS hm13))))))))))
    · exact ((rdN hm85 (by decide)).trans ((rdN hm77 (by decide)).trans ((rdN hm69 (by decide)).trans ((rdN hm61 (by decide)).trans ((rdN hm53 (by decide)).trans ((rdN hm45 (by decide)).trans ((rdN hm37 (by decide)).trans ((rdN hm29 (by decide)).trans (rdS hm21)))))))))
    · exact ((rdN hm85 (by decide)).trans ((rdN hm77 (by decide)).trans ((rdN hm69 (by decide)).trans ((rdN hm61 (by decide)).trans ((rdN hm53 (by decide)).trans ((rdN hm45 (by decide)).trans ((rdN hm37 (by decide)).trans (rdS hm29))))))))
    · exact ((rdN hm85 (by decide)).trans ((rdN hm77 (by decide)).trans ((rdN hm69 (by decide)).trans ((rdN hm61 (by decide)).trans ((rdN hm53 (by decide)).trans ((rdN hm45 (by decide)).trans (rdS hm37)))))))
    · exact ((rdN hm85 (by decide)).trans ((rdN hm77 (by decide)).trans ((rdN hm69 (by decide)).trans ((rdN hm61 (by decide)).trans ((rdN hm53 (by decide)).trans (rdS hm45))))))
    · exact ((rdN hm85 (by decide)).trans ((rdN hm77 (by decide)).trans ((rdN hm69 (by decide)).trans ((rdN hm61 (by decide)).trans (rdS hm53)))))
    · exact ((rdN hm85 (by decide)).trans ((rdN hm77 (by decide)).trans ((rdN hm69 (by decide)).trans (rdS hm61))))
    · exact ((rdN hm85 (by decide)).trans ((rdN hm77 (by decide)).trans (rdS hm69)))
    · exact ((rdN hm85 (by decide)).trans (rdS hm77))
    · exact (rdS hm85)
  · intro j hj
    exact ((rdN hm85 (by omega)).trans ((rdN hm77 (by omega)).trans ((rdN hm69 (by omega)).trans ((rdN hm61 (by omega)).trans ((rdN hm53 (by omega)).trans ((rdN hm45 (by omega)).trans ((rdN hm37 (by omega)).trans ((rdN hm29 (by omega)).trans ((rdN hm21 (by omega)).trans ((rdN hm13 (by omega)).trans (rdN hm5 (by omega))))))))))))
theorem nibI {p v k j : Int} (hk : 0 ≤ k ∧ k < 6) (hj : 0 ≤ j ∧ j < 6) (hv : 0 ≤ v ∧ v < 16) : nib (wth p k v) j = if j = k then v else nib p j := by
  obtain ⟨a, rfl⟩ : ∃ a : Nat, k = (a : Int) := ⟨k.toNat, by omega⟩
  obtain ⟨b, rfl⟩ : ∃ b : Nat, j = (b : Int) := ⟨j.toNat, by omega⟩
  rw [nib_wth a b (by omega) (by omega) hv]
  by_cases h : b = a
  · rw [if_pos h, if_pos (by omega)]
  · rw [if_neg h, if_neg (by omega)]
theorem c_walkBack (hB : Bsh sh) {c s : Nat} (hcc : c = 9 ∨ c = 13) (hso : stO s) (hs : sh[s]? = some stS) (hn : 0 ≤ m c 4 ∧ m c 4 ≤ 6) : Ru0 (gP xs fv) d 96 sh n (fun m' => m' s 7 = 0 ∧ m' s 8 = m (c + 1) 1 ∧ m' s 4 = pw (m c 4) - 1 ∧ m' s 9 = m s 9 + 1 ∧ (∀ k, k ≠ 7 → k ≠ 8 → k ≠ 4 → k ≠ 9 → m' s k = m s k) ∧ Fr [s] m m') (0, [some (.ref s), some (.ref c)], [], Wd sh m, n) := by
  have hc := csh_of hB hcc
  have hV : Clo (gP xs fv) d 96 2 false (Ru0 (gP xs fv) d 96 sh n (fun m' => m' s 7 = 0 ∧ m' s 8 = m (c + 1) 1 ∧ m' s 4 = pw (m c 4) - 1 ∧ m' s 9 = m s 9 + 1 ∧ (∀ k, k ≠ 7 → k ≠ 8 → k ≠ 4 → k ≠ 9 → m' s k = m s k) ∧ Fr [s] m m')) := Ru0_clo (q := mI96) rfl
  refine r_aload_n hV rfl rfl (pc' := 1) rfl ?_
  refine tt_iconst hV rfl (pc' := 2) rfl ?_
  refine tt_putI hV (tg := 0) (ci := 8) (kf := 7) rfl rfl (Or.inl rfl) hs rfl (by decide) rfl (pc' := 5) rfl ?_
  refine nmM (fun m2 hm2 => ?_)
  refine r_aload_n hV rfl rfl (pc' := 6) rfl ?_
  refine r_aload_n hV rfl rfl (pc' := 7) rfl ?_
  refine tt_getR hV (tg := 10) (ci := 0) (kf := 0) rfl rfl (by decide) hc.1 rfl (by decide) (pc' := 10) rfl ?_
  refine tt_iconst hV rfl (pc' := 11) rfl ?_
  refine tt_iald hV rfl hc.2.1 (by decide) (by omega) (pc' := 12) rfl ?_
  refine vtI (y := m (c + 1) 1) (rdA hm2 (by omega)) ?_
  refine tt_putI hV (tg := 0) (ci := 8) (kf := 8) rfl rfl (Or.inl rfl) hs rfl (by decide) rfl (pc' := 15) rfl ?_
  refine nmM (fun m12 hm12 => ?_)
  refine r_aload_n hV rfl rfl (pc' := 16) rfl ?_
  refine tt_iconst hV rfl (pc' := 17) rfl ?_
  refine r_aload_n hV rfl rfl (pc' := 18) rfl ?_
  refine tt_getI hV (tg := 0) (ci := 0) (kf := 4) rfl rfl (by decide) hc.1 rfl (by decide) (pc' := 21) rfl ?_
  refine vtI (y := m c 4) ((rdA hm12 (by omega)).trans (rdA hm2 (by omega))) ?_
  refine tt_ishl hV rfl (pc' := 22) rfl ?_
  refine tt_iconst hV rfl (pc' := 23) rfl ?_
  refine tt_isub hV rfl (pc' := 24) rfl ?_
  refine tt_putI hV (tg := 0) (ci := 8) (kf := 4) rfl rfl (Or.inl rfl) hs rfl (by decide) rfl (pc' := 27) rfl ?_
  refine nmM (fun m24 hm24 => ?_)
  refine r_aload_n hV rfl rfl (pc' := 28) rfl ?_
  refine r_dup hV rfl rfl (pc' := 29) rfl ?_
  refine tt_getI hV (tg := 0) (ci := 8) (kf := 9) rfl rfl (by decide) hs rfl (by decide) (pc' := 32) rfl ?_
  refine vtI (y := m s 9) ((rdN hm24 (by decide)).trans ((rdN hm12 (by decide)).trans (rdN hm2 (by decide)))) ?_
  refine tt_iconst hV rfl (pc' := 33) rfl ?_
  refine tt_iadd hV rfl (pc' := 34) rfl ?_
  refine tt_putI hV (tg := 0) (ci := 8) (kf := 9) rfl rfl (Or.inl rfl) hs rfl (by decide) rfl (pc' := 37) rfl ?_
  refine nmM (fun m34 hm34 => ?_)
  exact ru0_ret (q := mI96) rfl rfl rfl ⟨((rdN hm34 (by decide)).trans ((rdN hm24 (by decide)).trans ((rdN hm12 (by decide)).trans (rdS hm2)))), ((rdN hm34 (by decide)).trans ((rdN hm24 (by decide)).trans (rdS hm12))), by rw [((rdN hm34 (by decide)).trans (rdS hm24)), pw_e hn], (rdS hm34), fun k k7 k8 k4 k9 => (rdN hm34 k9).trans ((rdN hm24 k4).trans ((rdN hm12 k8).trans (rdN hm2 k7))), (frUp hm34 (frUp hm24 (frUp hm12 (frUp hm2 (Fr.rf _ _) (by simp)) (by simp)) (by simp)) (by simp))⟩
theorem c_swapSeats {s : Nat} (hs : sh[s]? = some stS) {x y : Int} : Ru0 (gP xs fv) (d + 1) 94 sh n (fun m' => m' s 3 = wth (wth (m s 3) x (nib (m s 3) y)) y (nib (m s 3) x) ∧ (∀ k, k ≠ 3 → m' s k = m s k) ∧ Fr [s] m m') (0, [some (.ref s), some (vI x), some (vI y), none], [], Wd sh m, n) := by
  have hV : Clo (gP xs fv) (d + 1) 94 4 false (Ru0 (gP xs fv) (d + 1) 94 sh n (fun m' => m' s 3 = wth (wth (m s 3) x (nib (m s 3) y)) y (nib (m s 3) x) ∧ (∀ k, k ≠ 3 → m' s k = m s k) ∧ Fr [s] m m')) := Ru0_clo (q := mI94) rfl
  refine r_aload_n hV rfl rfl (pc' := 1) rfl ?_
  refine r_iload_n hV rfl rfl (pc' := 2) rfl ?_
  refine tt_cv1I hV rfl rfl rfl (Wd_obj hs) (Nat.le_of_ble_eq_true rfl) (Nat.le_of_ble_eq_true rfl) rfl (c_seatOf xs fv _ _ hs) (pc' := 5) rfl ?_
  refine tt_istore3 hV rfl rfl (pc' := 6) rfl ?_
  refine r_aload_n hV rfl rfl (pc' := 7) rfl ?_
  refine r_aload_n hV rfl rfl (pc' := 8) rfl ?_
  refine tt_getI hV (tg := 0) (ci := 8) (kf := 3) rfl rfl (by decide) hs rfl (by decide) (pc' := 11) rfl ?_
  refine r_iload_n hV rfl rfl (pc' := 12) rfl ?_
  refine r_aload_n hV rfl rfl (pc' := 13) rfl ?_
  refine r_iload_n hV rfl rfl (pc' := 14) rfl ?_
  refine tt_cv1I hV rfl rfl rfl (Wd_obj hs) (Nat.le_of_ble_eq_true rfl) (Nat.le_of_ble_eq_true rfl) rfl (c_seatOf xs fv _ _ hs) (pc' := 17) rfl ?_
  refine tt_cs3I hV rfl rfl rfl (Nat.le_of_ble_eq_true rfl) (Nat.le_of_ble_eq_true rfl) rfl (c_with xs fv _ _) (pc' := 20) rfl ?_
  refine tt_putI hV (tg := 0) (ci := 8) (kf := 3) rfl rfl (Or.inl rfl) hs rfl (by decide) rfl (pc' := 23) rfl ?_
  refine nmM (fun m20 hm20 => ?_)
  refine r_aload_n hV rfl rfl (pc' := 24) rfl ?_
  refine r_aload_n hV rfl rfl (pc' := 25) rfl ?_
  refine tt_getI hV (tg := 0) (ci := 8) (kf := 3) rfl rfl (by decide) hs rfl (by decide) (pc' := 28) rfl ?_
  refine vtI (y := wth (m s 3) x (nib (m s 3) y)) (rdS hm20) ?_
  refine r_iload_n hV rfl rfl (pc' := 29) rfl ?_
  refine r_iload_n hV rfl rfl (pc' := 30) rfl ?_
  refine tt_cs3I hV rfl rfl rfl (Nat.le_of_ble_eq_true rfl) (Nat.le_of_ble_eq_true rfl) rfl (c_with xs fv _ _) (pc' := 33) rfl ?_
  refine tt_putI hV (tg := 0) (ci := 8) (kf := 3) rfl rfl (Or.inl rfl) hs rfl (by decide) rfl (pc' := 36) rfl ?_
  refine nmM (fun m33 hm33 => ?_)
  exact ru0_ret (q := mI94) rfl rfl rfl ⟨(rdS hm33), fun k hk => (rdN hm33 hk).trans (rdN hm20 hk), (frUp hm33 (frUp hm20 (Fr.rf _ _) (by simp)) (by simp))⟩
end Cstep
