/-! ===== the reference's slide ===== -/
theorem or_pw {x : Int} (k : Nat) (hk : k < 6) (hx : 0 ≤ x ∧ x < 2 ^ k) : iO x (iSl 1 k) = x + 2 ^ k := by
  obtain ⟨y, rfl⟩ : ∃ y : Nat, x = (y : Int) := ⟨x.toNat, by omega⟩
  have h : y < 2 ^ k := by
    have := hx.2
    have e : ((2 ^ k : Nat) : Int) = (2 : Int) ^ k := by simp
    omega
  exact (by decide +kernel : ∀ k : Nat, k < 6 → ∀ y : Nat, y < 2 ^ k → iO (y : Int) (iSl 1 k) = (y : Int) + 2 ^ k) k hk y h
theorem iO_0 {x : Int} (hx : -2147483648 ≤ x ∧ x < 2147483648) : iO x 0 = x := by
  have e : iO x 0 = (Int32.ofInt x ||| 0).toInt := rfl
  rw [e, Int32.or_zero, i32_r hx]
theorem fellTo_le (q : Int → Int) (kick : Int) (k : Nat) : 0 ≤ fellTo q kick k ∧ fellTo q kick k < 2 ^ k := by
  rw [fellTo_set]
  exact setOf_le _ _
theorem pw2 (k : Nat) (h : k ≤ 6) : (2 : Int) ^ k ≤ 64 := (by decide +kernel : ∀ k : Nat, k ≤ 6 → (2 : Int) ^ k ≤ 64) k h
theorem off_or {q : Int → Int} {kick : Int} {k : Nat} (hk : k ≤ 6) (h : 0 ≤ q 18 ∧ q 18 < 64) : iO (q 18) (fellTo q kick k) = q 18 + fellTo q kick k := by
  have h1 := fellTo_le q kick k
  have h2 := pw2 k hk
  refine or_add h (by omega) (fun j hj hb => ?_)
  rw [fellTo_set, setOf_bit _ _ _ hk hj] at hb
  split at hb
  next c => exact (of_decide_eq_true c.2).1
  next => omega
theorem off_le {q : Int → Int} {kick nm : Int} (hn : 1 ≤ nm ∧ nm ≤ 6) (h : 0 ≤ q 18 ∧ q 18 < pw nm) : 0 ≤ q 18 + fellTo q kick nm.toNat ∧ q 18 + fellTo q kick nm.toNat < pw nm := by
  obtain ⟨k, rfl⟩ : ∃ k : Nat, nm = (k : Int) := ⟨nm.toNat, by omega⟩
  rw [Int.toNat_natCast]
  have h0 := fellTo_le q kick k
  refine ⟨by omega, ?_⟩
  obtain ⟨x, hx⟩ : ∃ x : Nat, q 18 = (x : Int) := ⟨(q 18).toNat, by omega⟩
  obtain ⟨y, hy⟩ : ∃ y : Nat, fellTo q kick k = (y : Int) := ⟨(fellTo q kick k).toNat, by omega⟩
  have hd : ∀ j : Nat, j < 6 → bit (y : Int) j = 1 → bit (x : Int) j = 0 := by
    intro j hj hb
    rw [← hy, fellTo_set, setOf_bit _ _ _ (by omega) hj] at hb
    rw [← hx]
    split at hb
    next c => exact (of_decide_eq_true c.2).1
    next => omega
  rw [hx] at h ⊢
  rw [hy] at h0 ⊢
  have key : ∀ k : Nat, k ≤ 6 → ∀ x : Nat, (x : Int) < pw k → ∀ y : Nat, (y : Int) < 2 ^ k → (∀ j : Nat, j < 6 → bit (y : Int) j = 1 → bit (x : Int) j = 0) → (x : Int) + y < pw k := by
    intro k hk x hx y hy h
    have e : pw (k : Int) = 2 ^ k := by unfold pw; rw [Int.toNat_natCast]
    rw [e] at hx ⊢
    have hk6 := pw2 k hk
    have hx' : x < 64 := by omega
    have hy' : y < 64 := by omega
    rw [← or_add (by omega) (by omega) h]
    have key2 : ∀ k : Nat, k ≤ 6 → ∀ x : Nat, x < 2 ^ k → ∀ y : Nat, y < 2 ^ k → iO (x : Int) (y : Int) < 2 ^ k := by decide +kernel
    have e2 : ((2 ^ k : Nat) : Int) = (2 : Int) ^ k := by simp
    exact key2 k hk x (by omega) y (by omega)
  exact key k (by omega) x h.2 y h0.2 hd
section Mslide
variable (xs : List Int32) (fv : Value) (d n : Nat)
theorem m_slide {sh : List Sh} {m : Mm} (hB : Bsh sh) {pf : Pf} (hP : PM xs fv sh n m pf) (hp : Pok pf) (hK : Kok (kM m)) (hQ : Qok (kM m) (m 101)) (hW : Wok (kM m) (wtM m)) : Rq (gP xs fv) (d + 7) 219 sh n (fun v m' => v = fellA (kM m) (wtM m) pf (m 101) ∧ m' 101 = slideA (kM m) (wtM m) pf (m 101) ∧ Fr [83, 92, 93, 101] m m' ∧ (∀ k, k ≠ 34 → m' 83 k = m 83 k) ∧ m' 83 34 = if bumpQ (kM m) (wtM m) pf (m 101) = -1 then m 83 34 else iO (m 83 34) (iSl 1 (bumpQ (kM m) (wtM m) pf (m 101)))) (0, [some (.ref 83), none, none, none, none], [], Wd sh m, n) := by
  obtain ⟨Q, hQe⟩ : ∃ Q : Int → Mm → Prop, Q = (fun v m' => v = fellA (kM m) (wtM m) pf (m 101) ∧ m' 101 = slideA (kM m) (wtM m) pf (m 101) ∧ Fr [83, 92, 93, 101] m m' ∧ (∀ k, k ≠ 34 → m' 83 k = m 83 k) ∧ m' 83 34 = if bumpQ (kM m) (wtM m) pf (m 101) = -1 then m 83 34 else iO (m 83 34) (iSl 1 (bumpQ (kM m) (wtM m) pf (m 101)))) := ⟨_, rfl⟩
  rw [← hQe]
  have hV : Clo (gP xs fv) (d + 7) 219 5 false (Rq (gP xs fv) (d + 7) 219 sh n Q) := Rq_clo (q := mI219) rfl
  have hn : 1 ≤ m 83 28 ∧ m 83 28 ≤ 6 := hK.1
  have hwd : 3 ≤ m 98 0 ∧ m 98 0 ≤ 9 := hK.2.2.1
  have hgr : 1 ≤ m 98 2 ∧ m 98 2 ≤ 60 := hK.2.2.2.2.1
  have hrw : 1 ≤ m 98 3 ∧ m 98 3 ≤ 20 := hK.2.2.2.2.2.1
  have hro : 0 ≤ m 101 21 ∧ m 101 21 ≤ m 98 3 := hQ.2.2.2.2.1
  have hco : 0 ≤ m 101 22 ∧ m 101 22 < m 98 0 := hQ.2.2.2.2.2
  have hof : 0 ≤ m 101 18 ∧ m 101 18 < pw (m 83 28) := hQ.2.1
  have hpw := pw_le hn
  have hsm := sumA_r hp hK hQ hW
  obtain ⟨b, hb⟩ : ∃ b, b = bumpQ (kM m) (wtM m) pf (m 101) := ⟨_, rfl⟩
  obtain ⟨c1, hc1⟩ : ∃ c, c = colA1 (kM m) (wtM m) pf (m 101) := ⟨_, rfl⟩
  have hc1r : 0 ≤ c1 ∧ c1 < m 98 0 := by
    rw [hc1]
    show 0 ≤ asideA (m 98 0) (m 101 22) _ ∧ asideA (m 98 0) (m 101 22) _ < m 98 0
    unfold asideA
    omega
  have hbr : b = -1 ∨ (0 ≤ b ∧ b < m 83 27) := by
    rcases bumpFrom_r (m 99) (m 101 21 + 1) c1 (m 83 27).toNat 0 (by omega) with h | h
    · exact Or.inl (by rw [hb]; unfold bumpQ; rw [← hc1]; exact h)
    · refine Or.inr ?_
      have e : bumpFrom (m 99) (m 101 21 + 1) c1 (m 83 27).toNat 0 = b := by rw [hb]; unfold bumpQ; rw [← hc1]; rfl
      rw [e] at h
      omega
  have hnb : 0 ≤ m 83 27 ∧ m 83 27 ≤ 6 := hK.2.1
  -- the loop of those who fall
  have LP : ∀ (m3 : Mm), Fr [83, 92, 93, 101] m m3 → (∀ k, k ≠ 34 → m3 83 k = m 83 k) → m3 83 34 = iO (m 83 34) (iSl 1 b) → (∀ j, m3 101 j = if j = 21 then m 101 21 + 1 else if j = 22 then c1 else m 101 j) → 0 ≤ b → b < m 83 27 → bit (m 101 19) b = 0 → ∀ (f k : Nat) (kk acc v : Int), kk = k → acc = fellTo (m 101) (m 99 (4 * b + 2)) k → kk ≤ m 83 28 → m 83 28 - kk < f → Rq (gP xs fv) (d + 7) 219 sh n Q (110, [some (.ref 83), some (vI v), some (vI b), some (vI acc), some (vI kk)], [], Wd sh m3, n) := by
    intro m3 g1 g2 g3 g4 b1 b2 b3 f
    have e28 : m3 83 28 = m 83 28 := g2 28 (by decide)
    have e99 : m3 99 = m 99 := g1 99 (by decide)
    have e98 : m3 98 = m 98 := g1 98 (by decide)
    have e18 : m3 101 18 = m 101 18 := by rw [g4, if_neg (by decide), if_neg (by decide)]
    have hk := hK.2.2.2.2.2.2.2.2 b b1 b2
    have hk2 : 1 ≤ m 99 (4 * b + 2) ∧ m 99 (4 * b + 2) ≤ 9 := hk.2.2.1
    have hk3 : 0 ≤ m 99 (4 * b + 3) ∧ m 99 (4 * b + 3) ≤ 1 := hk.2.2.2
    have hk2' : m3 99 (4 * b + 2) = m 99 (4 * b + 2) := by rw [e99]
    have hk3' : m3 99 (4 * b + 3) = m 99 (4 * b + 3) := by rw [e99]
    induction f with
    | zero => intro k kk acc v h1 h2 h3 h4; omega
    | succ f ih =>
      intro k kk acc v h1 h2 h3 h4
      have hb0 := bit01 (m 101 18) kk
      have hb1 : bit (m3 101 18) kk = bit (m 101 18) kk := by rw [e18]
      have hfl := fellTo_le (m 101) (m 99 (4 * b + 2)) k
      have hhe : kk < m 83 28 → 0 ≤ m 101 (6 + kk) ∧ m 101 (6 + kk) ≤ 9 := fun q => (hQ.1 kk (by omega) q).2.1
      have hhe' : kk < m 83 28 → m3 101 (6 + kk) = m 101 (6 + kk) := fun q => by rw [g4, if_neg (by omega), if_neg (by omega)]
      refine r_iload hV rfl rfl (pc' := 112) rfl ?_
      refine r_aload_n hV rfl rfl (pc' := 113) rfl ?_
      refine tt_getI hV (tg := 0) (ci := 12) (kf := 28) rfl rfl (by decide) (hB _ _ rfl) rfl (by decide) (pc' := 116) rfl ?_
      refine tt_icmp_ge hV rfl (by omega) (by omega) (pt := 164) (by decide) (pf := 119) rfl (fun h116 => ?_) (fun h116 => ?_)
      · refine r_aload_n hV rfl rfl (pc' := 165) rfl ?_
        refine tt_getR hV (tg := 6) (ci := 12) (kf := 30) rfl rfl (by decide) (hB _ _ rfl) rfl (by decide) (pc' := 168) rfl ?_
        refine tt_bipush hV rfl (by decide) (pc' := 170) rfl ?_
        refine r_dup2 hV rfl rfl rfl (pc' := 171) rfl ?_
        refine tt_iald hV rfl (hB _ _ rfl) (by decide) (by omega) (pc' := 172) rfl ?_
        refine r_iload_n hV rfl rfl (pc' := 173) rfl ?_
        refine tt_ior hV rfl (pc' := 174) rfl ?_
        refine tt_iast hV rfl (hB _ _ rfl) (by decide) (by omega) (pc' := 175) rfl ?_
        refine r_aload_n hV rfl rfl (pc' := 176) rfl ?_
        refine tt_getR hV (tg := 6) (ci := 12) (kf := 30) rfl rfl (by decide) (hB _ _ rfl) rfl (by decide) (pc' := 179) rfl ?_
        refine tt_bipush hV rfl (by decide) (pc' := 181) rfl ?_
        refine r_aload_n hV rfl rfl (pc' := 182) rfl ?_
        refine r_aload_n hV rfl rfl (pc' := 183) rfl ?_
        refine tt_getR hV (tg := 6) (ci := 12) (kf := 30) rfl rfl (by decide) (hB _ _ rfl) rfl (by decide) (pc' := 186) rfl ?_
        refine tt_bipush hV rfl (by decide) (pc' := 188) rfl ?_
        refine tt_iald hV rfl (hB _ _ rfl) (by decide) (by omega) (pc' := 189) rfl ?_
        refine r_aload_n hV rfl rfl (pc' := 190) rfl ?_
        refine r_iload_n hV rfl rfl (pc' := 191) rfl ?_
        refine tt_iconst hV rfl (pc' := 192) rfl ?_
        refine tt_cv2I hV rfl rfl rfl (Wd_obj (hB _ _ rfl)) (Nat.le_of_ble_eq_true rfl) (Nat.le_of_ble_eq_true rfl) rfl (m_ofBump xs fv _ _ hB (by show 0 ≤ 4 * b + 3 ∧ _; omega)) (pc' := 195) rfl ?_
        have e99b : up m3 101 18 (iO (m3 101 18) acc) 99 = m 99 := by rw [up_off (by decide), e99]
        rw [e99b]
        refine tt_iconst hV rfl (pc' := 196) rfl ?_
        refine tt_icmp_ne hV rfl (by omega) (by omega) (pt := 203) (by decide) (pf := 199) rfl (fun h196 => ?_) (fun h196 => ?_)
        · refine tt_iconst hV rfl (pc' := 204) rfl ?_
          refine tt_cv2I hV rfl rfl rfl (Wd_obj (hB _ _ rfl)) (Nat.le_of_ble_eq_true rfl) (Nat.le_of_ble_eq_true rfl) rfl (m_aside xs fv _ _ hB (by rw [up_off (by decide), e98]; omega) (by rw [up_ne (Or.inr (by decide)), g4, if_neg (by decide), if_pos rfl]; omega) (by omega)) (pc' := 207) rfl ?_
          refine tt_iast hV rfl (hB _ _ rfl) (by decide) (by omega) (pc' := 208) rfl ?_
          refine r_iload_n hV rfl rfl (pc' := 209) rfl ?_
          have ek : (m 83 28).toNat = k := by omega
          have hcol : colA2 (kM m) (wtM m) pf (m 101) = asideA (m 98 0) c1 (if m 99 (4 * b + 3) = 1 then 1 else -1) := by
            unfold colA2
            rw [← hb, if_pos ⟨by omega, b3⟩, ← hc1]
            rfl
          have hfe : fellA (kM m) (wtM m) pf (m 101) = acc := by
            unfold fellA
            rw [← hb, if_pos ⟨by omega, b3⟩]
            show fellTo (m 101) (m 99 (4 * b + 2)) (m 83 28).toNat = acc
            rw [ek, h2]
          have e22 : up m3 101 18 (iO (m3 101 18) acc) 101 22 = c1 := by rw [up_ne (Or.inr (by decide)), g4, if_neg (by decide), if_pos rfl]
          have hoo : iO (m3 101 18) acc = m 101 18 + acc := by
            rw [e18, h2]
            exact off_or (by omega) (by omega)
          refine rq_ret (q := mI219) rfl rfl rfl ?_
          rw [hQe]
          refine ⟨hfe.symm, ?_, ?_, ?_, ?_⟩
          · funext j
            unfold slideA
            rw [hfe, hcol, e22, up_at, up_at, hoo, g4]
            have e98b : up m3 101 18 (m 101 18 + acc) 98 0 = m 98 0 := by rw [up_off (by decide), e98]
            rw [e98b]
            by_cases j18 : j = 18
            · subst j18
              simp
            · by_cases j21 : j = 21
              · subst j21
                simp
              · by_cases j22 : j = 22
                · subst j22
                  simp
                  congr 1
                  omega
                · simp [j18, j21, j22]
          · exact (g1.up (by decide)).up (by decide)
          · intro k hk
            rw [up_off (by decide), up_off (by decide)]
            exact g2 k hk
          · rw [up_off (by decide), up_off (by decide), ← hb, if_neg (by omega)]
            exact g3
        · refine tt_iconst hV rfl (pc' := 200) rfl ?_
          refine r_goto hV rfl (pc' := 204) (by decide) ?_
          refine tt_cv2I hV rfl rfl rfl (Wd_obj (hB _ _ rfl)) (Nat.le_of_ble_eq_true rfl) (Nat.le_of_ble_eq_true rfl) rfl (m_aside xs fv _ _ hB (by rw [up_off (by decide), e98]; omega) (by rw [up_ne (Or.inr (by decide)), g4, if_neg (by decide), if_pos rfl]; omega) (by omega)) (pc' := 207) rfl ?_
          refine tt_iast hV rfl (hB _ _ rfl) (by decide) (by omega) (pc' := 208) rfl ?_
          refine r_iload_n hV rfl rfl (pc' := 209) rfl ?_
          have ek : (m 83 28).toNat = k := by omega
          have hcol : colA2 (kM m) (wtM m) pf (m 101) = asideA (m 98 0) c1 (if m 99 (4 * b + 3) = 1 then 1 else -1) := by
            unfold colA2
            rw [← hb, if_pos ⟨by omega, b3⟩, ← hc1]
            rfl
          have hfe : fellA (kM m) (wtM m) pf (m 101) = acc := by
            unfold fellA
            rw [← hb, if_pos ⟨by omega, b3⟩]
            show fellTo (m 101) (m 99 (4 * b + 2)) (m 83 28).toNat = acc
            rw [ek, h2]
          have e22 : up m3 101 18 (iO (m3 101 18) acc) 101 22 = c1 := by rw [up_ne (Or.inr (by decide)), g4, if_neg (by decide), if_pos rfl]
          have hoo : iO (m3 101 18) acc = m 101 18 + acc := by
            rw [e18, h2]
            exact off_or (by omega) (by omega)
          refine rq_ret (q := mI219) rfl rfl rfl ?_
          rw [hQe]
          refine ⟨hfe.symm, ?_, ?_, ?_, ?_⟩
          · funext j
            unfold slideA
            rw [hfe, hcol, e22, up_at, up_at, hoo, g4]
            have e98b : up m3 101 18 (m 101 18 + acc) 98 0 = m 98 0 := by rw [up_off (by decide), e98]
            rw [e98b]
            by_cases j18 : j = 18
            · subst j18
              simp
            · by_cases j21 : j = 21
              · subst j21
                simp
              · by_cases j22 : j = 22
                · subst j22
                  simp
                  congr 1
                  omega
                · simp [j18, j21, j22]
          · exact (g1.up (by decide)).up (by decide)
          · intro k hk
            rw [up_off (by decide), up_off (by decide)]
            exact g2 k hk
          · rw [up_off (by decide), up_off (by decide), ← hb, if_neg (by omega)]
            exact g3
      · refine r_iload_n hV rfl rfl (pc' := 120) rfl ?_
        refine r_aload_n hV rfl rfl (pc' := 121) rfl ?_
        refine r_iload hV rfl rfl (pc' := 123) rfl ?_
        refine tt_cv1I hV rfl rfl rfl (Wd_obj (hB _ _ rfl)) (Nat.le_of_ble_eq_true rfl) (Nat.le_of_ble_eq_true rfl) rfl (m_isOn xs fv _ _ hB) (pc' := 126) rfl ?_
        refine tt_if_eq hV rfl (by omega) (pt := 155) (by decide) (pf := 129) rfl (fun h126 => ?_) (fun h126 => ?_)
        · refine tt_iconst hV rfl (pc' := 156) rfl ?_
          refine tt_ior hV rfl (pc' := 157) rfl ?_
          refine tt_istore3 hV rfl rfl (pc' := 158) rfl ?_
          refine tt_iinc4 hV rfl rfl (pc' := 161) rfl ?_
          refine r_goto hV rfl (pc' := 110) (by decide) ?_
          refine ih (k + 1) _ _ _ (by omega) ?_ (by omega) (by omega)
          show _ = fellTo (m 101) (m 99 (4 * b + 2)) k + _
          rw [← h2]
          have hkk : (k : Int) = kk := h1.symm
          rw [hkk]
          rw [if_neg (by omega), iO_0 (by have := pw2 k (by omega); omega), Int.add_zero]
        · refine r_aload_n hV rfl rfl (pc' := 130) rfl ?_
          refine tt_getR hV (tg := 6) (ci := 12) (kf := 30) rfl rfl (by decide) (hB _ _ rfl) rfl (by decide) (pc' := 133) rfl ?_
          refine tt_bipush hV rfl (by decide) (pc' := 135) rfl ?_
          refine r_iload hV rfl rfl (pc' := 137) rfl ?_
          refine tt_iadd hV rfl (pc' := 138) rfl ?_
          refine tt_iald hV rfl (hB _ _ rfl) (by decide) (by omega) (pc' := 139) rfl ?_
          refine r_aload_n hV rfl rfl (pc' := 140) rfl ?_
          refine r_iload_n hV rfl rfl (pc' := 141) rfl ?_
          refine tt_iconst hV rfl (pc' := 142) rfl ?_
          refine tt_cv2I hV rfl rfl rfl (Wd_obj (hB _ _ rfl)) (Nat.le_of_ble_eq_true rfl) (Nat.le_of_ble_eq_true rfl) rfl (m_ofBump xs fv _ _ hB (by omega)) (pc' := 145) rfl ?_
          refine tt_icmp_ge hV rfl (by have := hhe (by omega); have := hhe' (by omega); omega) (by omega) (pt := 155) (by decide) (pf := 148) rfl (fun h145 => ?_) (fun h145 => ?_)
          · have hq1 := hhe (by omega)
            have hq2 := hhe' (by omega)
            refine tt_iconst hV rfl (pc' := 156) rfl ?_
            refine tt_ior hV rfl (pc' := 157) rfl ?_
            refine tt_istore3 hV rfl rfl (pc' := 158) rfl ?_
            refine tt_iinc4 hV rfl rfl (pc' := 161) rfl ?_
            refine r_goto hV rfl (pc' := 110) (by decide) ?_
            refine ih (k + 1) _ _ _ (by omega) ?_ (by omega) (by omega)
            show _ = fellTo (m 101) (m 99 (4 * b + 2)) k + _
            rw [← h2]
            have hkk : (k : Int) = kk := h1.symm
            rw [hkk]
            rw [if_neg (by omega), iO_0 (by have := pw2 k (by omega); omega), Int.add_zero]
          · have hq1 := hhe (by omega)
            have hq2 := hhe' (by omega)
            refine tt_iconst hV rfl (pc' := 149) rfl ?_
            refine r_iload hV rfl rfl (pc' := 151) rfl ?_
            refine tt_ishl hV rfl (pc' := 152) rfl ?_
            refine r_goto hV rfl (pc' := 156) (by decide) ?_
            refine tt_ior hV rfl (pc' := 157) rfl ?_
            refine tt_istore3 hV rfl rfl (pc' := 158) rfl ?_
            refine tt_iinc4 hV rfl rfl (pc' := 161) rfl ?_
            refine r_goto hV rfl (pc' := 110) (by decide) ?_
            refine ih (k + 1) _ _ _ (by omega) ?_ (by omega) (by omega)
            show _ = fellTo (m 101) (m 99 (4 * b + 2)) k + _
            rw [← h2]
            have hkk : (k : Int) = kk := h1.symm
            rw [hkk]
            rw [if_pos (by omega), ← hkk, or_pw k (by omega) (by omega)]
  have J49 : ∀ (m1 : Mm) (v y : Int), Fr [92, 93] m m1 → y = (if m 98 2 ≤ sumA (kM m) (wtM m) pf (m 101) then 1 else if sumA (kM m) (wtM m) pf (m 101) ≤ -(m 98 2) then -1 else 0) → Rq (gP xs fv) (d + 7) 219 sh n Q (49, [some (.ref 83), some (vI v), none, none, none], [vI y, vI (m1 101 22), .ref 83, vI 22, .ref 101], Wd sh m1, n) := by
    intro m1 v y h1 hy
    have e98 : m1 98 = m 98 := h1 98 (by decide)
    have e101 : m1 101 = m 101 := h1 101 (by decide)
    have e83 : m1 83 = m 83 := h1 83 (by decide)
    have e22 : m1 101 22 = m 101 22 := by rw [e101]
    refine tt_cv2I hV rfl rfl rfl (Wd_obj (hB _ _ rfl)) (Nat.le_of_ble_eq_true rfl) (Nat.le_of_ble_eq_true rfl) rfl (m_aside xs fv _ _ hB (by rw [e98]; omega) (by omega) (by omega)) (pc' := 52) rfl ?_
    refine tt_iast hV rfl (hB _ _ rfl) (by decide) (by omega) (pc' := 53) rfl ?_
    refine r_aload_n hV rfl rfl (pc' := 54) rfl ?_
    refine tt_getR hV (tg := 6) (ci := 12) (kf := 30) rfl rfl (by decide) (hB _ _ rfl) rfl (by decide) (pc' := 57) rfl ?_
    refine tt_bipush hV rfl (by decide) (pc' := 59) rfl ?_
    refine r_dup2 hV rfl rfl rfl (pc' := 60) rfl ?_
    refine tt_iald hV rfl (hB _ _ rfl) (by decide) (by omega) (pc' := 61) rfl ?_
    refine tt_iconst hV rfl (pc' := 62) rfl ?_
    refine tt_iadd hV rfl (pc' := 63) rfl ?_
    refine tt_iast hV rfl (hB _ _ rfl) (by decide) (by omega) (pc' := 64) rfl ?_
    have hcc : asideA (m1 98 0) (m1 101 22) y = c1 := by rw [e98, e22, hc1]; unfold colA1; rw [hy]; rfl
    rw [hcc]
    have h21 : up m1 101 22 c1 101 21 + 1 = m 101 21 + 1 := by rw [up_ne (Or.inr (by decide)), e101]
    rw [h21]
    obtain ⟨m2, hm2⟩ : ∃ m2, m2 = up (up m1 101 22 c1) 101 21 (m 101 21 + 1) := ⟨_, rfl⟩
    rw [← hm2]
    have g1 : Fr [83, 92, 93, 101] m m2 := by rw [hm2]; exact ((h1.wd (by decide)).up (by decide)).up (by decide)
    have g2 : ∀ k, m2 83 k = m 83 k := fun k => by rw [hm2, up_off (by decide), up_off (by decide), e83]
    have g4 : ∀ j, m2 101 j = if j = 21 then m 101 21 + 1 else if j = 22 then c1 else m 101 j := fun j => by rw [hm2, up_at, up_at, e101]
    have k98 : m2 98 = m 98 := g1 98 (by decide)
    have k99 : m2 99 = m 99 := g1 99 (by decide)
    have eK : kM m2 = kM m := by unfold kM; rw [k98, k99, g2, g2, g2]
    have q21 : m2 101 21 = m 101 21 + 1 := by rw [g4, if_pos rfl]
    have q22 : m2 101 22 = c1 := by rw [g4, if_neg (by decide), if_pos rfl]
    have q19 : m2 101 19 = m 101 19 := by rw [g4, if_neg (by decide), if_neg (by decide)]
    have hbb : bumpA (kM m2) (m2 101 21) (m2 101 22) = b := by rw [eK, q21, q22, hb, hc1]; rfl
    have hb9 := bit01 (m 101 19) b
    have hb8 : bit (m2 101 19) b = bit (m 101 19) b := by rw [q19]
    refine r_aload_n hV rfl rfl (pc' := 65) rfl ?_
    refine tt_cv0I hV rfl rfl rfl (Wd_obj (hB _ _ rfl)) (Nat.le_of_ble_eq_true rfl) (Nat.le_of_ble_eq_true rfl) rfl (m_bumpHere xs fv _ _ hB (by rw [eK]; exact hK) (by omega) (by omega)) (pc' := 68) rfl ?_
    rw [hbb]
    refine tt_istore2 hV rfl rfl (pc' := 69) rfl ?_
    refine tt_iconst hV rfl (pc' := 70) rfl ?_
    refine tt_istore3 hV rfl rfl (pc' := 71) rfl ?_
    refine r_iload_n hV rfl rfl (pc' := 72) rfl ?_
    refine tt_iconst hV rfl (pc' := 73) rfl ?_
    refine tt_icmp_eq hV rfl (by omega) (by omega) (pt := 88) (by decide) (pf := 76) rfl (fun h73 => ?_) (fun h73 => ?_)
    · refine r_iload_n hV rfl rfl (pc' := 89) rfl ?_
      refine tt_iconst hV rfl (pc' := 90) rfl ?_
      refine tt_icmp_eq hV rfl (by omega) (by omega) (pt := 208) (by decide) (pf := 93) rfl (fun h90 => ?_) (fun h90 => absurd h73 h90)
      refine r_iload_n hV rfl rfl (pc' := 209) rfl ?_
      have hno : ¬ (b ≠ -1 ∧ bit (m 101 19) b = 0) := by omega
      refine rq_ret (q := mI219) rfl rfl rfl ?_
      rw [hQe]
      refine ⟨?_, ?_, ?_, ?_, ?_⟩
      · unfold fellA
        rw [← hb, if_neg hno]
      · funext j
        unfold slideA fellA colA2
        rw [← hb, if_neg hno, if_neg hno, ← hc1, Int.add_zero]
        skip
        rw [g4]
        by_cases j18 : j = 18
        · subst j18
          simp
        · by_cases j21 : j = 21
          · subst j21
            simp
          · by_cases j22 : j = 22
            · subst j22
              simp
            · simp [j18, j21, j22]
      · exact g1
      · intro k hk
        skip
        exact g2 k
      · rw [← hb]
        rw [if_pos h73]; exact g2 34
    · refine r_aload_n hV rfl rfl (pc' := 77) rfl ?_
      refine r_dup hV rfl rfl (pc' := 78) rfl ?_
      refine tt_getI hV (tg := 0) (ci := 12) (kf := 34) rfl rfl (by decide) (hB _ _ rfl) rfl (by decide) (pc' := 81) rfl ?_
      refine tt_iconst hV rfl (pc' := 82) rfl ?_
      refine r_iload_n hV rfl rfl (pc' := 83) rfl ?_
      refine tt_ishl hV rfl (pc' := 84) rfl ?_
      refine tt_ior hV rfl (pc' := 85) rfl ?_
      refine tt_putI hV (tg := 0) (ci := 12) (kf := 34) rfl rfl (Or.inl rfl) (hB _ _ rfl) rfl (by decide) rfl (pc' := 88) rfl ?_
      refine r_iload_n hV rfl rfl (pc' := 89) rfl ?_
      refine tt_iconst hV rfl (pc' := 90) rfl ?_
      refine tt_icmp_eq hV rfl (by omega) (by omega) (pt := 208) (by decide) (pf := 93) rfl (fun h90 => absurd h90 h73) (fun h90 => ?_)
      refine r_aload_n hV rfl rfl (pc' := 94) rfl ?_
      refine tt_getR hV (tg := 6) (ci := 12) (kf := 30) rfl rfl (by decide) (hB _ _ rfl) rfl (by decide) (pc' := 97) rfl ?_
      refine tt_bipush hV rfl (by decide) (pc' := 99) rfl ?_
      refine tt_iald hV rfl (hB _ _ rfl) (by decide) (by omega) (pc' := 100) rfl ?_
      refine r_iload_n hV rfl rfl (pc' := 101) rfl ?_
      refine tt_cs2I hV rfl rfl rfl (Nat.le_of_ble_eq_true rfl) (Nat.le_of_ble_eq_true rfl) rfl (m_has xs fv _ _) (pc' := 104) rfl ?_
      rw [up_off (by decide), hb8]
      refine tt_if_ne hV rfl (by omega) (pt := 208) (by decide) (pf := 107) rfl (fun h104 => ?_) (fun h104 => ?_)
      · refine r_iload_n hV rfl rfl (pc' := 209) rfl ?_
        have hno : ¬ (b ≠ -1 ∧ bit (m 101 19) b = 0) := by omega
        refine rq_ret (q := mI219) rfl rfl rfl ?_
        rw [hQe]
        refine ⟨?_, ?_, ?_, ?_, ?_⟩
        · unfold fellA
          rw [← hb, if_neg hno]
        · funext j
          unfold slideA fellA colA2
          rw [← hb, if_neg hno, if_neg hno, ← hc1, Int.add_zero]
          rw [up_off (by decide)]
          rw [g4]
          by_cases j18 : j = 18
          · subst j18
            simp
          · by_cases j21 : j = 21
            · subst j21
              simp
            · by_cases j22 : j = 22
              · subst j22
                simp
              · simp [j18, j21, j22]
        · exact (g1.up (by decide))
        · intro k hk
          rw [up_ne (Or.inr hk)]
          exact g2 k
        · rw [← hb]
          rw [if_neg h73, up_same, g2]
      · refine tt_iconst hV rfl (pc' := 108) rfl ?_
        refine tt_istore4 hV rfl rfl (pc' := 110) rfl ?_
        exact LP _ (g1.up (by decide)) (fun k hk => by rw [up_ne (Or.inr hk)]; exact g2 k) (by rw [up_same, g2]) (fun j => by rw [up_off (by decide)]; exact g4 j) (by omega) (by omega) (by omega) ((m 83 28).toNat + 1) 0 0 0 v rfl rfl (by omega) (by omega)
  refine r_aload_n hV rfl rfl (pc' := 1) rfl ?_
  obtain ⟨v, m1, ⟨hv, hf⟩, hr⟩ := m_sumNow xs fv d n hB hP hK hQ hW
  refine tt_cv0I hV rfl rfl rfl (Wd_obj (hB _ _ rfl)) (Nat.le_of_ble_eq_true rfl) (Nat.le_of_ble_eq_true rfl) rfl hr (pc' := 4) rfl ?_
  have e98 : m1 98 = m 98 := hf 98 (by decide)
  have e2 : m1 98 2 = m 98 2 := by rw [e98]
  refine tt_istore1 hV rfl rfl (pc' := 5) rfl ?_
  refine r_aload_n hV rfl rfl (pc' := 6) rfl ?_
  refine tt_getR hV (tg := 6) (ci := 12) (kf := 30) rfl rfl (by decide) (hB _ _ rfl) rfl (by decide) (pc' := 9) rfl ?_
  refine tt_bipush hV rfl (by decide) (pc' := 11) rfl ?_
  refine r_aload_n hV rfl rfl (pc' := 12) rfl ?_
  refine r_aload_n hV rfl rfl (pc' := 13) rfl ?_
  refine tt_getR hV (tg := 6) (ci := 12) (kf := 30) rfl rfl (by decide) (hB _ _ rfl) rfl (by decide) (pc' := 16) rfl ?_
  refine tt_bipush hV rfl (by decide) (pc' := 18) rfl ?_
  refine tt_iald hV rfl (hB _ _ rfl) (by decide) (by omega) (pc' := 19) rfl ?_
  refine r_iload_n hV rfl rfl (pc' := 20) rfl ?_
  refine r_aload_n hV rfl rfl (pc' := 21) rfl ?_
  refine tt_getR hV (tg := 6) (ci := 12) (kf := 24) rfl rfl (by decide) (hB _ _ rfl) rfl (by decide) (pc' := 24) rfl ?_
  refine tt_iconst hV rfl (pc' := 25) rfl ?_
  refine tt_iald hV rfl (hB _ _ rfl) (by decide) (by omega) (pc' := 26) rfl ?_
  refine tt_icmp_lt hV rfl (by omega) (by omega) (pt := 33) (by decide) (pf := 29) rfl (fun h26 => ?_) (fun h26 => ?_)
  · refine r_iload_n hV rfl rfl (pc' := 34) rfl ?_
    refine r_aload_n hV rfl rfl (pc' := 35) rfl ?_
    refine tt_getR hV (tg := 6) (ci := 12) (kf := 24) rfl rfl (by decide) (hB _ _ rfl) rfl (by decide) (pc' := 38) rfl ?_
    refine tt_iconst hV rfl (pc' := 39) rfl ?_
    refine tt_iald hV rfl (hB _ _ rfl) (by decide) (by omega) (pc' := 40) rfl ?_
    refine tt_ineg hV rfl (pc' := 41) rfl ?_
    refine tt_icmp_gt hV rfl (by omega) (by omega) (pt := 48) (by decide) (pf := 44) rfl (fun h41 => ?_) (fun h41 => ?_)
    · refine tt_iconst hV rfl (pc' := 49) rfl ?_
      exact J49 m1 v _ hf (by omega)
    · refine tt_iconst hV rfl (pc' := 45) rfl ?_
      refine r_goto hV rfl (pc' := 49) (by decide) ?_
      exact J49 m1 v _ hf (by omega)
  · refine tt_iconst hV rfl (pc' := 30) rfl ?_
    refine r_goto hV rfl (pc' := 49) (by decide) ?_
    exact J49 m1 v _ hf (by omega)
/-- a canton's laws of a slide -/
theorem slideA_ok {K : Kn} {wt : Int → Int} {pf : Pf} {q : Int → Int} (hK : Kok K) (hQ : Qok K q) (h : q 21 < kR K 3) : Qok K (slideA K wt pf q) := by
  obtain ⟨h1, h2, h3, h4, h5, h6⟩ := hQ
  have hn := hK.1
  refine ⟨fun k a b => ?_, ?_, ?_, ?_, ?_, ?_⟩
  · have e : ∀ j, j < 18 → slideA K wt pf q j = q j := fun j hj => by
      unfold slideA
      rw [if_neg (by omega), if_neg (by omega), if_neg (by omega)]
    rw [e _ (by omega), e _ (by omega), e _ (by omega)]
    exact h1 k a b
  · show 0 ≤ q 18 + fellA K wt pf q ∧ q 18 + fellA K wt pf q < pw (kNm K)
    unfold fellA
    split
    · exact off_le hn h2
    · omega
  · exact h3
  · exact h4
  · show 0 ≤ q 21 + 1 ∧ q 21 + 1 ≤ kR K 3
    omega
  · show 0 ≤ colA2 K wt pf q ∧ colA2 K wt pf q < kR K 0
    unfold colA2 colA1 asideA
    omega
end Mslide
