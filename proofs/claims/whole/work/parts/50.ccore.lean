/-! ===== the class: canton, slope ===== -/
section Ccore
variable (xs : List Int32) (fv : Value) (d n : Nat) {sh : List Sh} {m : Mm}
theorem c_lastRow {c : Nat} (hc : Csh sh c) : Ru (gP xs fv) d 2 (some (vI (m (c + 1) 3)), Wd sh m, n) (0, [some (.ref c)], [], Wd sh m, n) := by
  have hV : Clo (gP xs fv) d 2 1 false (Ru (gP xs fv) d 2 (some (vI (m (c + 1) 3)), Wd sh m, n)) := Ru_clo (q := mI2) rfl
  refine r_aload_n hV rfl rfl (pc' := 1) rfl ?_
  refine tt_getR hV (tg := 6) (ci := 0) (kf := 0) rfl rfl (by decide) hc.1 rfl (by decide) (pc' := 4) rfl ?_
  refine tt_iconst hV rfl (pc' := 5) rfl ?_
  refine tt_iald hV rfl hc.2.1 (by decide) (by omega) (pc' := 6) rfl ?_
  exact v_ret (q := mI2) rfl rfl rfl rfl
theorem c_ofBump {c : Nat} (hc : Csh sh c) {i k : Int} (h : 0 ≤ 4 * i + k ∧ 4 * i + k < 24) : Ru (gP xs fv) d 3 (some (vI (m (c + 2) (4 * i + k))), Wd sh m, n) (0, [some (.ref c), some (vI i), some (vI k)], [], Wd sh m, n) := by
  have hV : Clo (gP xs fv) d 3 3 false (Ru (gP xs fv) d 3 (some (vI (m (c + 2) (4 * i + k))), Wd sh m, n)) := Ru_clo (q := mI3) rfl
  refine r_aload_n hV rfl rfl (pc' := 1) rfl ?_
  refine tt_getR hV (tg := 6) (ci := 0) (kf := 1) rfl rfl (by decide) hc.1 rfl (by decide) (pc' := 4) rfl ?_
  refine r_iload_n hV rfl rfl (pc' := 5) rfl ?_
  refine tt_iconst hV rfl (pc' := 6) rfl ?_
  refine tt_imul hV rfl (pc' := 7) rfl ?_
  refine vtI (y := 4 * i) (by omega) ?_
  refine r_iload_n hV rfl rfl (pc' := 8) rfl ?_
  refine tt_iadd hV rfl (pc' := 9) rfl ?_
  refine tt_iald hV rfl hc.2.2.1 (by decide) (by omega) (pc' := 10) rfl ?_
  exact v_ret (q := mI3) rfl rfl rfl rfl
theorem c_ofMember {c : Nat} (hc : Csh sh c) {i k : Int} (h : 0 ≤ 4 * i + k ∧ 4 * i + k < 24) : Ru (gP xs fv) d 4 (some (vI (m (c + 3) (4 * i + k))), Wd sh m, n) (0, [some (.ref c), some (vI i), some (vI k)], [], Wd sh m, n) := by
  have hV : Clo (gP xs fv) d 4 3 false (Ru (gP xs fv) d 4 (some (vI (m (c + 3) (4 * i + k))), Wd sh m, n)) := Ru_clo (q := mI4) rfl
  refine r_aload_n hV rfl rfl (pc' := 1) rfl ?_
  refine tt_getR hV (tg := 6) (ci := 0) (kf := 2) rfl rfl (by decide) hc.1 rfl (by decide) (pc' := 4) rfl ?_
  refine r_iload_n hV rfl rfl (pc' := 5) rfl ?_
  refine tt_iconst hV rfl (pc' := 6) rfl ?_
  refine tt_imul hV rfl (pc' := 7) rfl ?_
  refine vtI (y := 4 * i) (by omega) ?_
  refine r_iload_n hV rfl rfl (pc' := 8) rfl ?_
  refine tt_iadd hV rfl (pc' := 9) rfl ?_
  refine tt_iald hV rfl hc.2.2.2 (by decide) (by omega) (pc' := 10) rfl ?_
  exact v_ret (q := mI4) rfl rfl rfl rfl
theorem c_sightOf {c : Nat} (hc : Csh sh c) {i : Int} (h : 0 ≤ 4 * i + 3 ∧ 4 * i + 3 < 24) : Ru (gP xs fv) d 5 (some (vI (m (c + 3) (4 * i + 3))), Wd sh m, n) (0, [some (.ref c), some (vI i)], [], Wd sh m, n) := by
  have hV : Clo (gP xs fv) d 5 2 false (Ru (gP xs fv) d 5 (some (vI (m (c + 3) (4 * i + 3))), Wd sh m, n)) := Ru_clo (q := mI5) rfl
  refine r_aload_n hV rfl rfl (pc' := 1) rfl ?_
  refine tt_getR hV (tg := 6) (ci := 0) (kf := 2) rfl rfl (by decide) hc.1 rfl (by decide) (pc' := 4) rfl ?_
  refine r_iload_n hV rfl rfl (pc' := 5) rfl ?_
  refine tt_iconst hV rfl (pc' := 6) rfl ?_
  refine tt_imul hV rfl (pc' := 7) rfl ?_
  refine vtI (y := 4 * i) (by omega) ?_
  refine tt_iconst hV rfl (pc' := 8) rfl ?_
  refine tt_iadd hV rfl (pc' := 9) rfl ?_
  refine tt_iald hV rfl hc.2.2.2 (by decide) (by omega) (pc' := 10) rfl ?_
  exact v_ret (q := mI5) rfl rfl rfl rfl
theorem c_bumpAt {c : Nat} {K : Kn} {row col : Int} (hc : Csh sh c) (hck : Ck m c K) (hK : Kok K) (hr : 0 ≤ row ∧ row ≤ 1000) (hco : 0 ≤ col ∧ col ≤ 1000) : Ru (gP xs fv) (d + 1) 6 (some (vI (bumpA K row col)), Wd sh m, n) (0, [some (.ref c), some (vI row), some (vI col), none], [], Wd sh m, n) := by
  obtain ⟨tot, ht⟩ : ∃ tot, tot = bumpA K row col := ⟨_, rfl⟩
  rw [← ht]
  have hnb : 0 ≤ kNb K ∧ kNb K ≤ 6 := hK.2.1
  have e3 := hck.1
  have hV : Clo (gP xs fv) (d + 1) 6 4 false (Ru (gP xs fv) (d + 1) 6 (some (vI tot), Wd sh m, n)) := Ru_clo (q := mI6) rfl
  have LP : ∀ (f : Nat) (b : Int), 0 ≤ b → b ≤ kNb K → kNb K - b < f → bumpFrom (kB K) row col (kNb K - b).toNat b = tot → Ru (gP xs fv) (d + 1) 6 (some (vI tot), Wd sh m, n) (2, [some (.ref c), some (vI row), some (vI col), some (vI b)], [], Wd sh m, n) := by
    intro f
    induction f with
    | zero => intro b h1 h2 h3 h4; omega
    | succ f ih =>
      intro b h1 h2 h3 h4
      refine r_iload_n hV rfl rfl (pc' := 3) rfl ?_
      refine r_aload_n hV rfl rfl (pc' := 4) rfl ?_
      refine tt_getI hV (tg := 0) (ci := 0) (kf := 3) rfl rfl (by decide) hc.1 rfl (by decide) (pc' := 7) rfl ?_
      refine tt_icmp_ge hV rfl (by omega) (by omega) (pt := 38) (by decide) (pf := 10) rfl (fun h7 => ?_) (fun h7 => ?_)
      · rw [bumpFrom_end _ _ _ _ _ (by omega)] at h4
        refine tt_iconst hV rfl (pc' := 39) rfl ?_
        exact v_ret (q := mI6) rfl rfl rfl (by rw [← h4])
      · rw [bumpFrom_step _ _ _ _ _ (by omega)] at h4
        have hk := hK.2.2.2.2.2.2.2.2 b h1 (by omega)
        have hwd := hK.2.2.1
        refine r_aload_n hV rfl rfl (pc' := 11) rfl ?_
        refine r_iload_n hV rfl rfl (pc' := 12) rfl ?_
        refine tt_iconst hV rfl (pc' := 13) rfl ?_
        refine tt_cv2I hV rfl rfl rfl (Wd_obj hc.1) (Nat.le_of_ble_eq_true rfl) (Nat.le_of_ble_eq_true rfl) rfl (c_ofBump xs fv _ _ hc (by omega)) (pc' := 16) rfl ?_
        refine vtI (y := kB K (4 * b)) (by rw [show 4 * b + 0 = 4 * b by omega]; exact hck.2.2.2.2 (4 * b) (by omega) (by omega)) ?_
        refine r_iload_n hV rfl rfl (pc' := 17) rfl ?_
        refine tt_icmp_ne hV rfl (by omega) (by omega) (pt := 32) (by decide) (pf := 20) rfl (fun h17 => ?_) (fun h17 => ?_)
        · rw [if_neg (fun e => h17 e.1)] at h4
          refine tt_iinc3 hV rfl rfl (pc' := 35) rfl ?_
          refine r_goto hV rfl (pc' := 2) (by decide) ?_
          exact ih (b + 1) (by omega) (by omega) (by omega) h4
        · refine r_aload_n hV rfl rfl (pc' := 21) rfl ?_
          refine r_iload_n hV rfl rfl (pc' := 22) rfl ?_
          refine tt_iconst hV rfl (pc' := 23) rfl ?_
          refine tt_cv2I hV rfl rfl rfl (Wd_obj hc.1) (Nat.le_of_ble_eq_true rfl) (Nat.le_of_ble_eq_true rfl) rfl (c_ofBump xs fv _ _ hc (by omega)) (pc' := 26) rfl ?_
          refine vtI (y := kB K (4 * b + 1)) (by rw [show 4 * b + 1 = 4 * b + 1 by omega]; exact hck.2.2.2.2 (4 * b + 1) (by omega) (by omega)) ?_
          refine r_iload_n hV rfl rfl (pc' := 27) rfl ?_
          refine tt_icmp_ne hV rfl (by omega) (by omega) (pt := 32) (by decide) (pf := 30) rfl (fun h27 => ?_) (fun h27 => ?_)
          · rw [if_neg (fun e => h27 e.2)] at h4
            refine tt_iinc3 hV rfl rfl (pc' := 35) rfl ?_
            refine r_goto hV rfl (pc' := 2) (by decide) ?_
            exact ih (b + 1) (by omega) (by omega) (by omega) h4
          · rw [if_pos ⟨by omega, by omega⟩] at h4
            refine r_iload_n hV rfl rfl (pc' := 31) rfl ?_
            exact v_ret (q := mI6) rfl rfl rfl (by rw [h4])
  refine tt_iconst hV rfl (pc' := 1) rfl ?_
  refine tt_istore3 hV rfl rfl (pc' := 2) rfl ?_
  exact LP ((kNb K).toNat + 1) 0 (by omega) (by omega) (by omega) (by rw [ht]; unfold bumpA; rw [Int.sub_zero])
theorem c_shift (hB : Bsh sh) {c s : Nat} {K : Kn} (hcc : c = 9 ∨ c = 13) (hso : stO s) (hs : sh[s]? = some stS) (h18 : m 18 0 = (c : Int)) (hck : Ck m c K) (hK : Kok K) {side : Int} (hsd : 0 ≤ side ∧ side ≤ 1) (hcl : 0 ≤ m s 8 ∧ m s 8 < kR K 0) : Ru0 (gP xs fv) d 82 sh n (fun m' => m' s 8 = asideA (kR K 0) (m s 8) (if side = 0 then -1 else 1) ∧ (∀ k, k ≠ 8 → m' s k = m s k) ∧ Fr [s] m m') (0, [some (.ref 18), some (.ref s), some (vI side), none], [], Wd sh m, n) := by
  have hc := csh_of hB hcc
  have hwd := hK.2.2.1
  have e0 : m (c + 1) 0 = kR K 0 := hck.2.2.2.1 0 (by omega) (by omega)
  have hV : Clo (gP xs fv) d 82 4 false (Ru0 (gP xs fv) d 82 sh n (fun m' => m' s 8 = asideA (kR K 0) (m s 8) (if side = 0 then -1 else 1) ∧ (∀ k, k ≠ 8 → m' s k = m s k) ∧ Fr [s] m m')) := Ru0_clo (q := mI82) rfl
  refine r_iload_n hV rfl rfl (pc' := 1) rfl ?_
  refine tt_if_ne hV rfl (by omega) (pt := 13) (by decide) (pf := 4) rfl (fun h1 => ?_) (fun h1 => ?_)
  · refine r_aload_n hV rfl rfl (pc' := 14) rfl ?_
    refine tt_getI hV (tg := 0) (ci := 8) (kf := 8) rfl rfl (by decide) hs rfl (by decide) (pc' := 17) rfl ?_
    refine tt_iconst hV rfl (pc' := 18) rfl ?_
    refine tt_iadd hV rfl (pc' := 19) rfl ?_
    refine tt_istore3 hV rfl rfl (pc' := 20) rfl ?_
    refine r_iload_n hV rfl rfl (pc' := 21) rfl ?_
    refine tt_if_lt hV rfl (by omega) (pt := 42) (by decide) (pf := 24) rfl (fun h21 => ?_) (fun h21 => ?_)
    · exact ru0_ret (q := mI82) rfl rfl rfl ⟨by unfold asideA; omega, fun _ _ => rfl, Fr.rf _ _⟩
    · refine r_iload_n hV rfl rfl (pc' := 25) rfl ?_
      refine r_aload_n hV rfl rfl (pc' := 26) rfl ?_
      refine tt_getP hV (tg := 0) (ci := 7) (kf := 0) rfl rfl (by decide) (hB _ _ rfl) rfl (by decide) (b := c) h18 (pc' := 29) rfl ?_
      refine tt_getR hV (tg := 10) (ci := 0) (kf := 0) rfl rfl (by decide) hc.1 rfl (by decide) (pc' := 32) rfl ?_
      refine tt_iconst hV rfl (pc' := 33) rfl ?_
      refine tt_iald hV rfl hc.2.1 (by decide) (by omega) (pc' := 34) rfl ?_
      refine tt_icmp_ge hV rfl (by omega) (by omega) (pt := 42) (by decide) (pf := 37) rfl (fun h34 => ?_) (fun h34 => ?_)
      · exact ru0_ret (q := mI82) rfl rfl rfl ⟨by unfold asideA; omega, fun _ _ => rfl, Fr.rf _ _⟩
      · refine r_aload_n hV rfl rfl (pc' := 38) rfl ?_
        refine r_iload_n hV rfl rfl (pc' := 39) rfl ?_
        refine tt_putI hV (tg := 0) (ci := 8) (kf := 8) rfl rfl (Or.inl rfl) hs rfl (by decide) rfl (pc' := 42) rfl ?_
        refine nmM (fun m39 hm39 => ?_)
        exact ru0_ret (q := mI82) rfl rfl rfl ⟨by rw [(rdS hm39)]; unfold asideA; omega, fun k hk => rdN hm39 hk, (frUp hm39 (Fr.rf _ _) (by simp))⟩
  · refine r_aload_n hV rfl rfl (pc' := 5) rfl ?_
    refine tt_getI hV (tg := 0) (ci := 8) (kf := 8) rfl rfl (by decide) hs rfl (by decide) (pc' := 8) rfl ?_
    refine tt_iconst hV rfl (pc' := 9) rfl ?_
    refine tt_isub hV rfl (pc' := 10) rfl ?_
    refine r_goto hV rfl (pc' := 19) (by decide) ?_
    refine tt_istore3 hV rfl rfl (pc' := 20) rfl ?_
    refine r_iload_n hV rfl rfl (pc' := 21) rfl ?_
    refine tt_if_lt hV rfl (by omega) (pt := 42) (by decide) (pf := 24) rfl (fun h21 => ?_) (fun h21 => ?_)
    · exact ru0_ret (q := mI82) rfl rfl rfl ⟨by unfold asideA; omega, fun _ _ => rfl, Fr.rf _ _⟩
    · refine r_iload_n hV rfl rfl (pc' := 25) rfl ?_
      refine r_aload_n hV rfl rfl (pc' := 26) rfl ?_
      refine tt_getP hV (tg := 0) (ci := 7) (kf := 0) rfl rfl (by decide) (hB _ _ rfl) rfl (by decide) (b := c) h18 (pc' := 29) rfl ?_
      refine tt_getR hV (tg := 10) (ci := 0) (kf := 0) rfl rfl (by decide) hc.1 rfl (by decide) (pc' := 32) rfl ?_
      refine tt_iconst hV rfl (pc' := 33) rfl ?_
      refine tt_iald hV rfl hc.2.1 (by decide) (by omega) (pc' := 34) rfl ?_
      refine tt_icmp_ge hV rfl (by omega) (by omega) (pt := 42) (by decide) (pf := 37) rfl (fun h34 => ?_) (fun h34 => ?_)
      · exact ru0_ret (q := mI82) rfl rfl rfl ⟨by unfold asideA; omega, fun _ _ => rfl, Fr.rf _ _⟩
      · refine r_aload_n hV rfl rfl (pc' := 38) rfl ?_
        refine r_iload_n hV rfl rfl (pc' := 39) rfl ?_
        refine tt_putI hV (tg := 0) (ci := 8) (kf := 8) rfl rfl (Or.inl rfl) hs rfl (by decide) rfl (pc' := 42) rfl ?_
        refine nmM (fun m39 hm39 => ?_)
        exact ru0_ret (q := mI82) rfl rfl rfl ⟨by rw [(rdS hm39)]; unfold asideA; omega, fun k hk => rdN hm39 hk, (frUp hm39 (Fr.rf _ _) (by simp))⟩
theorem c_throwOff (hB : Bsh sh) {c s : Nat} {K : Kn} (hcc : c = 9 ∨ c = 13) (hso : stO s) (hs : sh[s]? = some stS) (h18 : m 18 0 = (c : Int)) (hck : Ck m c K) (hK : Kok K) {q : Int → Int} {kick : Int} (hkk : 1 ≤ kick ∧ kick ≤ 9) (hS1 : ∀ k, 0 ≤ k → k < kNm K → nib (m s 2) k = q (6 + k)) (hS4 : m s 4 = pw (kNm K) - 1 - q 18) (hof : 0 ≤ q 18 ∧ q 18 < pw (kNm K)) (h0 : m 18 3 = 0) : Ru0 (gP xs fv) (d + 1) 83 sh n (fun m' => m' 18 3 = fellTo q kick (kNm K).toNat ∧ (∀ k, k ≠ 3 → m' 18 k = m 18 k) ∧ m' s 4 = m s 4 - fellTo q kick (kNm K).toNat ∧ (∀ k, k ≠ 4 → m' s k = m s k) ∧ Fr [18, s] m m') (0, [some (.ref 18), some (.ref s), some (vI kick), none], [], Wd sh m, n) := by
  have hc := csh_of hB hcc
  have hn := hK.1
  have hpw := pw_le hn
  have e4 : m c 4 = kNm K := hck.2.1
  have hV : Clo (gP xs fv) (d + 1) 83 4 false (Ru0 (gP xs fv) (d + 1) 83 sh n (fun m' => m' 18 3 = fellTo q kick (kNm K).toNat ∧ (∀ k, k ≠ 3 → m' 18 k = m 18 k) ∧ m' s 4 = m s 4 - fellTo q kick (kNm K).toNat ∧ (∀ k, k ≠ 4 → m' s k = m s k) ∧ Fr [18, s] m m')) := Ru0_clo (q := mI83) rfl
  have LP : ∀ (f k : Nat) (kk : Int) (m1 : Mm), kk = k → m1 18 3 = fellTo q kick k → (∀ j, j ≠ 3 → m1 18 j = m 18 j) → Fr [18] m m1 → kk ≤ kNm K → kNm K - kk < f → Ru0 (gP xs fv) (d + 1) 83 sh n (fun m' => m' 18 3 = fellTo q kick (kNm K).toNat ∧ (∀ k, k ≠ 3 → m' 18 k = m 18 k) ∧ m' s 4 = m s 4 - fellTo q kick (kNm K).toNat ∧ (∀ k, k ≠ 4 → m' s k = m s k) ∧ Fr [18, s] m m') (2, [some (.ref 18), some (.ref s), some (vI kick), some (vI kk)], [], Wd sh m1, n) := by
    intro f
    induction f with
    | zero => intro k kk m1 h1 h2 h3 h4 h5 h6; omega
    | succ f ih =>
      intro k kk m1 h1 h2 h3 h4 h5 h6
      have hb0 := bit01 (q 18) kk
      have hfl := fellTo_le q kick k
      refine r_iload_n hV rfl rfl (pc' := 3) rfl ?_
      refine r_aload_n hV rfl rfl (pc' := 4) rfl ?_
      refine tt_getP hV (tg := 0) (ci := 7) (kf := 0) rfl rfl (by decide) (hB _ _ rfl) rfl (by decide) (b := c) ((h3 0 (by decide)).trans h18) (pc' := 7) rfl ?_
      refine tt_getI hV (tg := 0) (ci := 0) (kf := 4) rfl rfl (by decide) hc.1 rfl (by decide) (pc' := 10) rfl ?_
      refine vtI (y := m c 4) (rdF h4 (by simp <;> omega)) ?_
      refine tt_icmp_ge hV rfl (by omega) (by omega) (pt := 48) (by decide) (pf := 13) rfl (fun h10 => ?_) (fun h10 => ?_)
      · refine r_aload_n hV rfl rfl (pc' := 49) rfl ?_
        refine r_dup hV rfl rfl (pc' := 50) rfl ?_
        refine tt_getI hV (tg := 0) (ci := 8) (kf := 4) rfl rfl (by decide) hs rfl (by decide) (pc' := 53) rfl ?_
        refine vtI (y := m s 4) (rdF h4 (by simp <;> omega)) ?_
        refine r_aload_n hV rfl rfl (pc' := 54) rfl ?_
        refine tt_getI hV (tg := 0) (ci := 7) (kf := 3) rfl rfl (by decide) (hB _ _ rfl) rfl (by decide) (pc' := 57) rfl ?_
        refine vtI (y := fellTo q kick k) h2 ?_
        refine tt_iconst hV rfl (pc' := 58) rfl ?_
        refine tt_ixor hV rfl (pc' := 59) rfl ?_
        refine tt_iand hV rfl (pc' := 60) rfl ?_
        refine tt_putI hV (tg := 0) (ci := 8) (kf := 4) rfl rfl (Or.inl rfl) hs rfl (by decide) rfl (pc' := 63) rfl ?_
        refine nmM (fun m60 hm60 => ?_)
        have ek : (kNm K).toNat = k := by omega
        have hp2 := pw2 k (by omega)
        have hand : iA (m s 4) (iX (fellTo q kick k) (-1)) = m s 4 - fellTo q kick k := by
          rw [hS4]
          refine and_sub (by omega) (by omega) (fun j hj hb => ?_)
          rw [fellTo_set, setOf_bit _ _ _ (by omega) hj] at hb
          split at hb
          next cc =>
            have := (of_decide_eq_true cc.2).1
            rw [ab_bit hn hof (by omega)]
            omega
          next => omega
        refine ru0_ret (q := mI83) rfl rfl rfl ⟨?_, ?_, ?_, ?_, ?_⟩
        · rw [((rdA hm60 (by omega)).trans h2), ek]
        · intro j hj
          exact (rdA hm60 (by omega)).trans (h3 j hj)
        · rw [(rdS hm60), ek, hand]
        · intro j hj
          exact (rdN hm60 hj).trans (rdF h4 (by simp <;> omega))
        · exact (frUp hm60 (h4.wd (by simp <;> omega)) (by simp))
      · have hsr := hS1 kk (by omega) (by omega)
        have hab : bit (m s 4) kk = 1 - bit (q 18) kk := by rw [hS4]; exact ab_bit hn hof (by omega)
        refine r_aload_n hV rfl rfl (pc' := 14) rfl ?_
        refine r_iload_n hV rfl rfl (pc' := 15) rfl ?_
        refine tt_cv1I hV rfl rfl rfl (Wd_obj hs) (Nat.le_of_ble_eq_true rfl) (Nat.le_of_ble_eq_true rfl) rfl (c_isAboard xs fv _ _ hs) (pc' := 18) rfl ?_
        refine vtI (y := bit (m s 4) kk) (by rw [(rdF h4 (by simp <;> omega))]) ?_
        refine tt_if_eq hV rfl (by omega) (pt := 42) (by decide) (pf := 21) rfl (fun h18 => ?_) (fun h18 => ?_)
        · refine tt_iinc3 hV rfl rfl (pc' := 45) rfl ?_
          refine r_goto hV rfl (pc' := 2) (by decide) ?_
          refine ih (k + 1) _ m1 (by omega) ?_ ?_ h4 (by omega) (by omega)
          · rw [h2]
            show _ = fellTo q kick k + _
            have hkk2 : (k : Int) = kk := h1.symm
            rw [hkk2]
            rw [if_neg (by omega), Int.add_zero]
          · intro j hj
            exact h3 j hj
        · refine r_aload_n hV rfl rfl (pc' := 22) rfl ?_
          refine r_iload_n hV rfl rfl (pc' := 23) rfl ?_
          refine tt_cv1I hV rfl rfl rfl (Wd_obj hs) (Nat.le_of_ble_eq_true rfl) (Nat.le_of_ble_eq_true rfl) rfl (c_heelsOf xs fv _ _ hs) (pc' := 26) rfl ?_
          refine vtI (y := nib (m s 2) kk) (by rw [(rdF h4 (by simp <;> omega))]) ?_
          refine r_iload_n hV rfl rfl (pc' := 27) rfl ?_
          refine tt_icmp_ge hV rfl (by have := nib_r (m s 2) kk; omega) (by omega) (pt := 42) (by decide) (pf := 30) rfl (fun h27 => ?_) (fun h27 => ?_)
          · refine tt_iinc3 hV rfl rfl (pc' := 45) rfl ?_
            refine r_goto hV rfl (pc' := 2) (by decide) ?_
            refine ih (k + 1) _ m1 (by omega) ?_ ?_ h4 (by omega) (by omega)
            · rw [h2]
              show _ = fellTo q kick k + _
              have hkk2 : (k : Int) = kk := h1.symm
              rw [hkk2]
              rw [if_neg (by omega), Int.add_zero]
            · intro j hj
              exact h3 j hj
          · refine r_aload_n hV rfl rfl (pc' := 31) rfl ?_
            refine r_dup hV rfl rfl (pc' := 32) rfl ?_
            refine tt_getI hV (tg := 0) (ci := 7) (kf := 3) rfl rfl (by decide) (hB _ _ rfl) rfl (by decide) (pc' := 35) rfl ?_
            refine vtI (y := fellTo q kick k) h2 ?_
            refine tt_iconst hV rfl (pc' := 36) rfl ?_
            refine r_iload_n hV rfl rfl (pc' := 37) rfl ?_
            refine tt_ishl hV rfl (pc' := 38) rfl ?_
            refine tt_ior hV rfl (pc' := 39) rfl ?_
            refine tt_putI hV (tg := 0) (ci := 7) (kf := 3) rfl rfl (Or.inl rfl) (hB _ _ rfl) rfl (by decide) rfl (pc' := 42) rfl ?_
            refine nmM (fun m39 hm39 => ?_)
            refine tt_iinc3 hV rfl rfl (pc' := 45) rfl ?_
            refine r_goto hV rfl (pc' := 2) (by decide) ?_
            refine ih (k + 1) _ m39 (by omega) ?_ ?_ (frUp hm39 h4 (by simp)) (by omega) (by omega)
            · rw [(rdS hm39)]
              show _ = fellTo q kick k + _
              have hkk2 : (k : Int) = kk := h1.symm
              rw [hkk2]
              rw [if_pos (by omega), ← hkk2, or_pw k (by omega) (by omega)]
            · intro j hj
              exact (rdN hm39 hj).trans (h3 j hj)
  refine tt_iconst hV rfl (pc' := 1) rfl ?_
  refine tt_istore3 hV rfl rfl (pc' := 2) rfl ?_
  exact LP ((kNm K).toNat + 1) 0 0 m rfl (by rw [h0]; rfl) (fun _ _ => rfl) (Fr.rf _ _) (by omega) (by omega)
theorem c_sumOf (hB : Bsh sh) {c s : Nat} {K : Kn} (hcc : c = 9 ∨ c = 13) (hso : stO s) (hs : sh[s]? = some stS) (h18 : m 18 0 = (c : Int)) (hck : Ck m c K) (hK : Kok K) {wt q : Int → Int} {pf : Pf} (hP : PC xs fv sh n m pf) (hp : Pok pf) (hS : Sr K wt (m s) q) (hQ : Qok K q) (hW : Wok K wt) : Rq (gP xs fv) (d + 6) 80 sh n (fun v m2 => v = sumA K wt pf q ∧ Fr [19, 20] m m2) (0, [some (.ref 18), some (.ref s), none, none, none], [], Wd sh m, n) := by
  have hc := csh_of hB hcc
  have hn := hK.1
  have hof := hQ.2.1
  have e4 : m c 4 = kNm K := hck.2.1
  have e5 : m c 5 = kIc K := hck.2.2.1
  have e7 : m s 7 = q 21 := hS.2.2.2.2.1
  have hV : Clo (gP xs fv) (d + 6) 80 5 false (Rq (gP xs fv) (d + 6) 80 sh n (fun v m2 => v = sumA K wt pf q ∧ Fr [19, 20] m m2)) := Rq_clo (q := mI80) rfl
  have LP : ∀ (f k : Nat) (kk acc : Int) (m1 : Mm) (o4 : Option Value), kk = k → acc = sumTo (kNm K) wt pf q k → Fr [19, 20] m m1 → kk ≤ kNm K → kNm K - kk < f → Rq (gP xs fv) (d + 6) 80 sh n (fun v m2 => v = sumA K wt pf q ∧ Fr [19, 20] m m2) (4, [some (.ref 18), some (.ref s), some (vI acc), some (vI kk), o4], [], Wd sh m1, n) := by
    intro f
    induction f with
    | zero => intro k kk acc m1 o4 h1 h2 h3 h4 h5; omega
    | succ f ih =>
      intro k kk acc m1 o4 h1 h2 h3 h4 h5
      have hb2 := bit01 (kIc K) (q 21)
      refine r_iload_n hV rfl rfl (pc' := 5) rfl ?_
      refine r_aload_n hV rfl rfl (pc' := 6) rfl ?_
      refine tt_getP hV (tg := 0) (ci := 7) (kf := 0) rfl rfl (by decide) (hB _ _ rfl) rfl (by decide) (b := c) ((rdF h3 (by decide)).trans h18) (pc' := 9) rfl ?_
      refine tt_getI hV (tg := 0) (ci := 0) (kf := 4) rfl rfl (by decide) hc.1 rfl (by decide) (pc' := 12) rfl ?_
      refine vtI (y := m c 4) (rdF h3 (by simp <;> omega)) ?_
      refine tt_icmp_ge hV rfl (by omega) (by omega) (pt := 56) (by decide) (pf := 15) rfl (fun h12 => ?_) (fun h12 => ?_)
      · refine r_aload_n hV rfl rfl (pc' := 57) rfl ?_
        refine tt_getP hV (tg := 0) (ci := 7) (kf := 0) rfl rfl (by decide) (hB _ _ rfl) rfl (by decide) (b := c) ((rdF h3 (by decide)).trans h18) (pc' := 60) rfl ?_
        refine tt_getI hV (tg := 0) (ci := 0) (kf := 5) rfl rfl (by decide) hc.1 rfl (by decide) (pc' := 63) rfl ?_
        refine vtI (y := m c 5) (rdF h3 (by simp <;> omega)) ?_
        refine r_aload_n hV rfl rfl (pc' := 64) rfl ?_
        refine tt_getI hV (tg := 0) (ci := 8) (kf := 7) rfl rfl (by decide) hs rfl (by decide) (pc' := 67) rfl ?_
        refine vtI (y := m s 7) (rdF h3 (by simp <;> omega)) ?_
        rw [e5, e7]
        refine tt_ishr hV rfl (pc' := 68) rfl ?_
        refine tt_iconst hV rfl (pc' := 69) rfl ?_
        refine tt_iand hV rfl (pc' := 70) rfl ?_
        refine tt_iconst hV rfl (pc' := 71) rfl ?_
        refine tt_icmp_ne hV rfl (i32R _) (by omega) (pt := 80) (by decide) (pf := 74) rfl (fun h71 => ?_) (fun h71 => ?_)
        · refine r_iload_n hV rfl rfl (pc' := 81) rfl ?_
          have ek : (kNm K).toNat = k := by omega
          refine rq_ret (q := mI80) rfl rfl rfl ⟨?_, h3⟩
          unfold sumA
          rw [ek, ← h2]
          unfold bit at *
          omega
        · refine tt_iconst hV rfl (pc' := 75) rfl ?_
          refine r_iload_n hV rfl rfl (pc' := 76) rfl ?_
          refine tt_imul hV rfl (pc' := 77) rfl ?_
          refine r_goto hV rfl (pc' := 81) (by decide) ?_
          have ek : (kNm K).toNat = k := by omega
          refine rq_ret (q := mI80) rfl rfl rfl ⟨?_, h3⟩
          unfold sumA
          rw [ek, ← h2]
          unfold bit at *
          omega
      · have hsr := hS.1 kk (by omega) (by omega)
        have hab : bit (m s 4) kk = 1 - bit (q 18) kk := by rw [hS.2.1]; exact ab_bit hn hof (by omega)
        have hb0 := bit01 (q 18) kk
        refine r_aload_n hV rfl rfl (pc' := 16) rfl ?_
        refine r_iload_n hV rfl rfl (pc' := 17) rfl ?_
        refine tt_cv1I hV rfl rfl rfl (Wd_obj hs) (Nat.le_of_ble_eq_true rfl) (Nat.le_of_ble_eq_true rfl) rfl (c_leanOf xs fv _ _ hs) (pc' := 20) rfl ?_
        refine vtI (y := nib (m s 1) kk) (by rw [(rdF h3 (by simp <;> omega))]) ?_
        refine tt_istore4 hV rfl rfl (pc' := 22) rfl ?_
        refine r_iload hV rfl rfl (pc' := 24) rfl ?_
        refine tt_iconst hV rfl (pc' := 25) rfl ?_
        refine tt_icmp_eq hV rfl (by have := nib_r (m s 1) kk; omega) (by omega) (pt := 50) (by decide) (pf := 28) rfl (fun h25 => ?_) (fun h25 => ?_)
        · refine tt_iinc3 hV rfl rfl (pc' := 53) rfl ?_
          refine r_goto hV rfl (pc' := 4) (by decide) ?_
          refine ih (k + 1) _ _ m1 _ (by omega) ?_ h3 (by omega) (by omega)
          show _ = sumTo (kNm K) wt pf q k + _
          rw [← h2]
          have hkk2 : (k : Int) = kk := h1.symm
          rw [hkk2]
          rw [show q kk - 1 = 0 by omega, Int.zero_mul]
          split <;> omega
        · refine r_aload_n hV rfl rfl (pc' := 29) rfl ?_
          refine r_iload_n hV rfl rfl (pc' := 30) rfl ?_
          refine tt_cv1I hV rfl rfl rfl (Wd_obj hs) (Nat.le_of_ble_eq_true rfl) (Nat.le_of_ble_eq_true rfl) rfl (c_isAboard xs fv _ _ hs) (pc' := 33) rfl ?_
          refine vtI (y := bit (m s 4) kk) (by rw [(rdF h3 (by simp <;> omega))]) ?_
          refine tt_if_eq hV rfl (by omega) (pt := 50) (by decide) (pf := 36) rfl (fun h33 => ?_) (fun h33 => ?_)
          · refine tt_iinc3 hV rfl rfl (pc' := 53) rfl ?_
            refine r_goto hV rfl (pc' := 4) (by decide) ?_
            refine ih (k + 1) _ _ m1 _ (by omega) ?_ h3 (by omega) (by omega)
            show _ = sumTo (kNm K) wt pf q k + _
            rw [← h2]
            have hkk2 : (k : Int) = kk := h1.symm
            rw [hkk2]
            rw [if_neg (by omega), Int.add_zero]
          · refine r_iload_n hV rfl rfl (pc' := 37) rfl ?_
            refine r_iload hV rfl rfl (pc' := 39) rfl ?_
            refine tt_iconst hV rfl (pc' := 40) rfl ?_
            refine tt_isub hV rfl (pc' := 41) rfl ?_
            refine r_aload_n hV rfl rfl (pc' := 42) rfl ?_
            refine r_aload_n hV rfl rfl (pc' := 43) rfl ?_
            refine r_iload_n hV rfl rfl (pc' := 44) rfl ?_
            obtain ⟨v44, m44, ⟨hv44, hf44⟩, hr44⟩ := hP d m1 s K wt q kk (Lsc.of h3 (by decide) (rdF h3 (by decide))) hso (by rw [(h3 s (by simp <;> omega))]; exact hS) hK hQ hW (by omega) (by omega)
            refine tt_cv2I hV rfl rfl rfl (Wd_obj (hB _ _ rfl)) (Nat.le_of_ble_eq_true rfl) (Nat.le_of_ble_eq_true rfl) rfl hr44 (pc' := 47) rfl ?_
            refine tt_imul hV rfl (pc' := 48) rfl ?_
            refine vtI (y := ((nib (m s 1) kk - 1) * v44)) (by omega) ?_
            refine tt_iadd hV rfl (pc' := 49) rfl ?_
            refine tt_istore2 hV rfl rfl (pc' := 50) rfl ?_
            refine tt_iinc3 hV rfl rfl (pc' := 53) rfl ?_
            refine r_goto hV rfl (pc' := 4) (by decide) ?_
            refine ih (k + 1) _ _ m44 _ (by omega) ?_ (h3.tr hf44) (by omega) (by omega)
            show _ = sumTo (kNm K) wt pf q k + _
            rw [← h2]
            have hkk2 : (k : Int) = kk := h1.symm
            rw [hkk2]
            rw [if_pos (by omega), show q kk - 1 = nib (m s 1) kk - 1 by omega, ← hv44]
  refine tt_iconst hV rfl (pc' := 1) rfl ?_
  refine tt_istore2 hV rfl rfl (pc' := 2) rfl ?_
  refine tt_iconst hV rfl (pc' := 3) rfl ?_
  refine tt_istore3 hV rfl rfl (pc' := 4) rfl ?_
  exact LP ((kNm K).toNat + 1) 0 0 0 m none rfl rfl (Fr.rf _ _) (by omega) (by omega)
end Ccore
