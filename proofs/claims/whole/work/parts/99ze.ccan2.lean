/-! ===== the class reads a canton: ice, clauses, the whole ===== -/
theorem bit_tb {x : Int} (k : Nat) (hx : 0 ≤ x ∧ x < 2147483648) (hk : k < 32) : bit x k = if x.toNat.testBit k then 1 else 0 := by
  rw [bit_e k (by omega) hk]
  obtain ⟨a, rfl⟩ : ∃ a : Nat, x = (a : Int) := ⟨x.toNat, by omega⟩
  rw [Int.toNat_natCast, Nat.testBit_eq_decide_div_mod_eq]
  have e : ((a : Int) / 2 ^ k % 2) = ((a / 2 ^ k % 2 : Nat) : Int) := by simp
  rw [e]
  by_cases z : a / 2 ^ k % 2 = 1
  · rw [z, decide_eq_true rfl]; rfl
  · have : a / 2 ^ k % 2 = 0 := by omega
    rw [this, decide_eq_false (by decide)]; rfl
theorem or_b20 {x a : Int} (hx : 0 ≤ x ∧ x < 1048576) (ha : 0 ≤ a ∧ a < 20) : (0 ≤ iO x (iSl 1 a) ∧ iO x (iSl 1 a) < 1048576) ∧ ∀ r, 0 ≤ r → r < 20 → bit (iO x (iSl 1 a)) r = if r = a then 1 else bit x r := by
  obtain ⟨k, rfl⟩ : ∃ k : Nat, a = (k : Int) := ⟨a.toNat, by omega⟩
  have hp : (2 : Nat) ^ k < 1048576 := (by decide : ∀ k : Nat, k < 20 → 2 ^ k < 1048576) k (by omega)
  obtain ⟨P, hP⟩ : ∃ P : Nat, P = 2 ^ k := ⟨_, rfl⟩
  have e : ((2 : Int) ^ k) = (P : Int) := by rw [hP]; simp
  rw [← hP] at hp
  have e1 : iSl 1 (k : Int) = (P : Int) := by
    have := iSl_e (x := 1) k (by rw [Int.one_mul, e]; omega) (by omega)
    rw [this, Int.one_mul, e]
  have e2 : iO x (iSl 1 (k : Int)) = ((x.toNat ||| P : Nat) : Int) := by
    rw [e1, iO_nat (a := x) (b := (P : Int)) (by omega) (by omega), Int.toNat_natCast]
  have hlt : x.toNat ||| P < 2 ^ 20 := Nat.or_lt_two_pow (by omega) (by omega)
  rw [e2]
  refine ⟨⟨by omega, by omega⟩, fun r h1 h2 => ?_⟩
  obtain ⟨j, rfl⟩ : ∃ j : Nat, r = (j : Int) := ⟨r.toNat, by omega⟩
  rw [bit_tb j (by omega) (by omega), bit_tb j (by omega) (by omega), Int.toNat_natCast, Nat.testBit_or, hP, Nat.testBit_two_pow]
  by_cases z : j = k
  · subst z
    rw [decide_eq_true rfl, Bool.or_true, if_pos rfl, if_pos rfl]
  · rw [decide_eq_false (fun e => z e.symm), Bool.or_false]
    exact (if_neg (fun e => z (by omega))).symm
/-- ice as bits -/
def icF (I : Int → Int) : Nat → Int
  | 0 => 0
  | k + 1 => iO (icF I k) (iSl 1 (I k))
theorem icF_r {I : Int → Int} : ∀ k : Nat, (∀ b : Int, 0 ≤ b → b < k → 0 ≤ I b ∧ I b ≤ 19) → (0 ≤ icF I k ∧ icF I k < 1048576) ∧ ∀ r, 0 ≤ r → r < 20 → (bit (icF I k) r = 1 ↔ ∃ o : Int, 0 ≤ o ∧ o < k ∧ I o = r)
  | 0, _ => ⟨by show (0 : Int) ≤ 0 ∧ (0 : Int) < 1048576; decide, fun r h1 h2 => by
      constructor
      · intro e
        have e0 : bit (icF I 0) r = 0 := by
          obtain ⟨j, rfl⟩ : ∃ j : Nat, r = (j : Int) := ⟨r.toNat, by omega⟩
          rw [bit_tb j (by show (0 : Int) ≤ 0 ∧ (0 : Int) < 2147483648; decide) (by omega)]
          show (if (0 : Int).toNat.testBit j = true then (1 : Int) else 0) = 0
          rw [show (0 : Int).toNat = 0 by rfl, Nat.zero_testBit]
          rfl
        omega
      · rintro ⟨o, q1, q2, q3⟩
        have : o < ((0 : Nat) : Int) := q2
        omega⟩
  | k + 1, h => by
    obtain ⟨a1, a2⟩ := icF_r k (fun b h1 h2 => h b h1 (by omega))
    have hk := h k (by omega) (by omega)
    obtain ⟨b1, b2⟩ := or_b20 (x := icF I k) (a := I k) a1 (by omega)
    refine ⟨b1, fun r h1 h2 => ?_⟩
    show bit (iO (icF I k) (iSl 1 (I k))) r = 1 ↔ _
    rw [b2 r h1 h2]
    by_cases z : r = I k
    · rw [if_pos z]
      exact ⟨fun _ => ⟨k, by omega, by omega, z.symm⟩, fun _ => rfl⟩
    · rw [if_neg z, a2 r h1 h2]
      constructor
      · rintro ⟨o, q1, q2, q3⟩
        exact ⟨o, q1, by omega, q3⟩
      · rintro ⟨o, q1, q2, q3⟩
        by_cases zo : o = k
        · rw [zo] at q3; exact absurd q3.symm z
        · exact ⟨o, q1, by omega, q3⟩
theorem icF_cg {I J : Int → Int} : ∀ k : Nat, (∀ b : Int, 0 ≤ b → b < k → I b = J b) → icF I k = icF J k
  | 0, _ => rfl
  | k + 1, h => by
    show iO (icF I k) (iSl 1 (I k)) = iO (icF J k) (iSl 1 (J k))
    rw [icF_cg k (fun b h1 h2 => h b h1 (by omega)), h k (by omega) (by omega)]
def noTw (s : Cs) : Prop := ∀ k o, 0 ≤ o → o < k → k < csNi s → csI s o ≠ csI s k
/-- what only the whole text can tell -/
def whP (s : Cs) : Prop := 0 < csNm s ∧ csR s 1 < csR s 0 ∧ (∀ b, 0 ≤ b → b < csNb s → csB s (4 * b + 1) < csR s 0 ∧ ∀ o, 0 ≤ o → o < b → ¬ (csB s (4 * o) = csB s (4 * b) ∧ csB s (4 * o + 1) = csB s (4 * b + 1))) ∧ noTw s
/-- the class's draft -/
def CSt (m : Mm) (c : Nat) (s : Cs) : Prop := (∀ j, 0 ≤ j → j < 5 → m (c + 1) j = csR s j) ∧ m c 3 = csNb s ∧ (∀ j, 0 ≤ j → j < 4 * csNb s → m (c + 2) j = csB s j) ∧ m c 4 = csNm s ∧ (∀ j, 0 ≤ j → j < 4 * csNm s → m (c + 3) j = csM s j) ∧ m c 5 = icF (csI s) (csNi s).toNat ∧ ((m c 6 = 0 ∧ noTw s) ∨ (m c 6 = 1 ∧ ¬ noTw s)) ∧ (m 5 0 = csS s ∧ m 5 1 = csNb s ∧ m 5 2 = csNi s ∧ m 5 3 = csNm s)
theorem CSt.cg {m m' : Mm} {c : Nat} {s : Cs} (h : CSt m c s) (h0 : m' c = m c) (h1 : m' (c + 1) = m (c + 1)) (h2 : m' (c + 2) = m (c + 2)) (h3 : m' (c + 3) = m (c + 3)) (h5 : m' 5 = m 5) : CSt m' c s := by
  unfold CSt at h ⊢
  rw [h0, h1, h2, h3, h5]
  exact h
abbrev drL (c : Nat) : List Nat := [3, 4, 5, c, c + 1, c + 2, c + 3]
section CCan2
variable {X : Cx} {d c : Nat} {m : Mm} {Q : Int → Mm → Prop} {Q0 : Mm → Prop} {T : Int → Int} {n : Int} {s : Cs}
theorem csh5 {m : Mm} (hc : cO c) : c ≠ 1 ∧ c ≠ 2 ∧ c ≠ 3 ∧ c ≠ 4 ∧ c ≠ 5 ∧ c + 1 ≠ 5 ∧ c + 2 ≠ 5 ∧ c + 3 ≠ 5 := by omega
theorem TpC.dr {m m' : Mm} (h : TpC T n m) (hc : cO c) (hf : Fr (drL c) m m') : TpC T n m' := h.fr (hf 1 (by simp; omega)) (hf 2 (by simp; omega))
theorem kd_in {kd : Int} (h : 0 ≤ kd ∧ kd < 4) : kd = 0 ∨ kd = 1 ∨ kd = 2 ∨ kd = 3 := by omega
theorem R_clause_c (hB : Bsh X.2.2.1) (hB2 : X.2.2.1.length ≤ 1000000) (hfv : X.2.1 = .null ∨ X.2.1 = .ref (aK + 9)) (hT : TOk T n) (hc : cO c) (hm : TpC T n m) (ha : 0 ≤ m 3 3 ∧ m 3 3 ≤ n) (hS : CSt m c s) (hok : csOk s)
    (h0 : ∀ m', Fr (drL c) m m' → (kdO (sgn T n (sk T n (m 3 3))) = -1 ∨ mxK (kdO (sgn T n (sk T n (m 3 3)))) ≤ ctK (kdO (sgn T n (sk T n (m 3 3)))) s) → m' 3 3 = sk T n (m 3 3) → Q 0 m')
    (h1 : ∀ (r : Bool × Int × (Int → Int)) m', r = itsP T n (kdO (sgn T n (sk T n (m 3 3)))) 241 0 (sk T n (m 3 3) + 1) (usK (kdO (sgn T n (sk T n (m 3 3))))) → ¬ (kdO (sgn T n (sk T n (m 3 3))) = -1 ∨ mxK (kdO (sgn T n (sk T n (m 3 3)))) ≤ ctK (kdO (sgn T n (sk T n (m 3 3)))) s) → Fr (drL c) m m' → m' 3 3 = r.2.1 → (itEnd T n r = true → CSt m' c (adK (kdO (sgn T n (sk T n (m 3 3)))) r.2.2 s)) → Q (b2i (itEnd T n r)) m') : R_readClause X (d + 6) c m Q := by
  have hn := hT.1
  have hk1 := sk_ge T n (m 3 3)
  have hk2 := sk_le (T := T) ha.2
  have hsr := sgn_r hT (a := sk T n (m 3 3)) (by omega)
  have hkr := kdO_r (sgn T n (sk T n (m 3 3)))
  obtain ⟨S1, S2, S3, S4, S5, S6, S7, S8⟩ := hS
  obtain ⟨o1, o2, o3, o4, o5, o6, o7, o8⟩ := hok
  refine R_readClausew hB hc hB2 (B_blanks hB hT hm ha.1 ha.2 (B_sign_c hB hT hm.a3 (by omega) hk2 ?_))
  generalize sk T n (m 3 3) = b at h0 h1 hk1 hk2 hsr hkr ⊢
  have hfu : Fr (drL c) m (up m 3 3 b) := (Fr.rf _ m).up (by simp)
  refine ⟨by omega, fun z => ⟨by omega, Z_kind_c hB2 hsr ?_⟩, fun z => h0 _ hfu (Or.inl (by rw [z]; rfl)) (up_same _ _ _ _)⟩
  have hzb : b < n := sgn_nz (T := T) z
  generalize kdO (sgn T n b) = kd at h0 h1 hkr ⊢
  refine ⟨by omega, fun zk => h0 _ hfu (Or.inl (by omega)) (up_same _ _ _ _), fun zk => ?_⟩
  have hkd : 0 ≤ kd ∧ kd < 4 := by omega
  have hf := ft_r hkd
  have h5 := mnK_le kd
  have e5 : (up m 3 3 b) 5 kd = ctK kd s := by
    rw [up_off (by decide)]
    rcases kd_in hkd with rfl | rfl | rfl | rfl
    · exact S8.1
    · exact S8.2.1
    · exact S8.2.2.1
    · exact S8.2.2.2
  have hct : -1 ≤ ctK kd s ∧ ctK kd s ≤ 6 := by
    rcases kd_in hkd with rfl | rfl | rfl | rfl
    · show -1 ≤ csS s ∧ csS s ≤ 6; omega
    · show -1 ≤ csNb s ∧ csNb s ≤ 6; omega
    · show -1 ≤ csNi s ∧ csNi s ≤ 6; omega
    · show -1 ≤ csNm s ∧ csNm s ≤ 6; omega
  have hmx := mx4 kd.toNat (by omega)
  rw [show ((kd.toNat : Nat) : Int) = kd by omega] at hmx
  have emx : gx xMOST_OF_KIND kd = mxK kd := rfl
  have hmr : 1 ≤ mxK kd ∧ mxK kd ≤ 6 := by
    rw [hmx]
    repeat' split
    all_goals omega
  have eF : gx xFIRST kd = ftK kd := rfl
  have eF1 : gx xFIRST (kd + 1) = ftK (kd + 1) := rfl
  refine ⟨by omega, by rw [e5]; omega, by rw [emx]; omega, fun zc => ?_, fun zc => h0 _ hfu (Or.inr (by rw [← e5]; exact zc)) (up_same _ _ _ _)⟩
  rw [e5, emx] at zc
  rw [e5, eF, eF1]
  have hne : ¬ (kd = -1 ∨ mxK kd ≤ ctK kd s) := by omega
  have emn : ftK (kd + 1) - ftK kd = mnK kd := by omega
  rw [emn]
  refine ⟨by omega, by omega, by omega, by omega, by omega, ?_⟩
  rw [up_same]
  obtain ⟨m1, hm1⟩ : ∃ m1, m1 = upR (up (up (up m 3 3 b) 5 kd (ctK kd s + 1)) 3 3 (b + 1)) 4 0 (0 + mnK kd) (fun j => gx xUSUAL (j - 0 + ftK kd)) := ⟨_, rfl⟩
  rw [← hm1]
  have a3 : m1 3 3 = b + 1 := by rw [hm1, upR_off (by decide), up_same]
  have a4 : ∀ j, 0 ≤ j → j < mnK kd → m1 4 j = usK kd j := fun j q1 q2 => by
    rw [hm1, upR_in (by omega)]
    show gx xUSUAL (j - 0 + ftK kd) = gx xUSUAL (ftK kd + j)
    congr 1
    omega
  have a5 : ∀ j, m1 5 j = if j = kd then ctK kd s + 1 else m 5 j := fun j => by rw [hm1, upR_off (by decide), up_off (by decide), up_at, up_off (by decide)]
  have aF : Fr [3, 4, 5] m m1 := by rw [hm1]; exact ((((Fr.rf _ m).up (by simp)).up (by simp)).up (by simp)).upR (by simp)
  have hmm1 : TpC T n m1 := hm.fr (aF 1 (by decide)) (aF 2 (by decide))
  have hr := itsP_r (T := T) (n := n) (kd := kd) 241 0 (b + 1) (usK kd) (by omega) (by omega) (usK_ok hkd)
  refine R_readItemsw hB (R_items_4 hB hB2 hfv hT hkd (m0 := m1) 241 0 0 none none m1 (usK kd) (by decide) (by decide) hmm1 (by rw [a3]; omega) (Fr.rf _ _) a4 (fun m2 w1 w2 w3 => ?_))
  rw [a3] at w2 w3 ⊢
  have h1 := h1 (itsP T n kd 241 0 (b + 1) (usK kd))
  generalize itsP T n kd 241 0 (b + 1) (usK kd) = r at h1 hr w2 w3 ⊢
  have fr2 : Fr [3, 4, 5] m m2 := aF.tr (w1.wd (by decide))
  have fr2' : Fr (drL c) m m2 := fr2.wd (by simp)
  have b5 : ∀ j, m2 5 j = if j = kd then ctK kd s + 1 else m 5 j := fun j => by rw [w1 5 (by decide)]; exact a5 j
  have g0 : m2 c = m c := fr2 c (by simp; omega)
  have g1 : m2 (c + 1) = m (c + 1) := fr2 (c + 1) (by simp; omega)
  have g2 : m2 (c + 2) = m (c + 2) := fr2 (c + 2) (by simp; omega)
  have g3 : m2 (c + 3) = m (c + 3) := fr2 (c + 3) (by simp; omega)
  cases hb : itEnd T n r with
  | false =>
    have := h1 m2 rfl hne fr2' w2 (fun e => by rw [hb] at e; cases e)
    rw [hb] at this
    exact ⟨by decide, fun e => absurd rfl e, fun _ => this⟩
  | true =>
    have w3 := w3 hb
    have hr1 : r.1 = true := by
      unfold itEnd at hb
      exact (Bool.and_eq_true _ _ ▸ hb).1
    have hv := (hr.2.2 hr1).1
    have fin : ∀ m', Fr (drL c) m m' → m' 3 3 = r.2.1 → CSt m' c (adK kd r.2.2 s) → Q 1 m' := fun m' q1 q2 q3 => by
      have := h1 m' rfl hne q1 q2 (fun _ => q3)
      rw [hb] at this
      exact this
    have hcases := kd_in hkd
    refine ⟨by decide, fun _ => ⟨fun z0 => ⟨fun z1 => ⟨fun z2 => ?_, fun z2 => ?_⟩, fun z1 => ?_⟩, fun z0 => ?_⟩, fun e => absurd e (by decide)⟩
    · -- a member
      have e3 : kd = 3 := by omega
      subst e3
      have zc' : csNm s < 6 := by
        have : mxK 3 = 6 := rfl
        have : ctK 3 s = csNm s := rfl
        omega
      have ec4 : m2 c 4 = csNm s := by rw [g0]; exact S4
      refine K_addMemberw hB hc ⟨by omega, fun q => by omega, fun _ => ⟨by omega, fin _ ((fr2'.upR (by simp)).up (by simp)) (by rw [up_ne (Or.inl (by omega)), upR_off (by omega)]; exact w2) ?_⟩⟩
      rw [ec4]
      refine ⟨fun j q1 q2 => ?_, ?_, fun j q1 q2 => ?_, ?_, fun j q1 q2 => ?_, ?_, ?_, ?_, ?_, ?_, ?_⟩
      · rw [up_ne (Or.inl (by omega)), upR_off (by omega), g1]; exact S1 j q1 q2
      · rw [up_ne (Or.inr (by decide)), upR_off (by omega), g0]; exact S2
      · rw [up_ne (Or.inl (by omega)), upR_off (by omega), g2]; exact S3 j q1 q2
      · rw [up_same]; rfl
      · have q2' : j < 4 * (csNm s + 1) := q2
        rw [up_ne (Or.inl (by omega))]
        show _ = pvF (csM s) (4 * csNm s) 4 r.2.2 j
        unfold pvF
        by_cases zj : 4 * csNm s ≤ j
        · rw [upR_in (by omega), if_pos (by omega)]
          show m2 4 (j - 4 * csNm s + 0) = _
          rw [Int.add_zero]
          exact w3 _ (by omega) (by show j - 4 * csNm s < 4; omega)
        · rw [upR_out (by omega), if_neg (by omega), g3]
          exact S5 j q1 (by omega)
      · rw [up_ne (Or.inr (by decide)), upR_off (by omega), g0]; exact S6
      · rw [up_ne (Or.inr (by decide)), upR_off (by omega), g0]; exact S7
      · rw [up_off (by omega), upR_off (by omega), b5]; exact S8.1
      · rw [up_off (by omega), upR_off (by omega), b5]; exact S8.2.1
      · rw [up_off (by omega), upR_off (by omega), b5]; exact S8.2.2.1
      · rw [up_off (by omega), upR_off (by omega), b5]; rfl
    · -- ice
      subst z2
      have zc' : csNi s < 4 := by
        have : mxK 2 = 4 := rfl
        have : ctK 2 s = csNi s := rfl
        omega
      have hI := w3 0 (by decide) (by decide)
      have hv0 := hv 0 (by decide) (by decide)
      have l0 : loK 2 0 = 0 := rfl
      have u0 : hiK 2 0 = 19 := rfl
      obtain ⟨c1, c2⟩ := icF_r (I := csI s) (csNi s).toNat (fun b q1 q2 => o7 b q1 (by omega))
      have e6 : m2 c 6 = m c 6 := by rw [g0]
      have ec5 : m2 c 5 = icF (csI s) (csNi s).toNat := by rw [g0]; exact S6
      have eic : icF (pvF (csI s) (csNi s) 1 r.2.2) (csNi s + 1).toNat = iO (icF (csI s) (csNi s).toNat) (iSl 1 (r.2.2 0)) := by
        rw [show (csNi s + 1).toNat = (csNi s).toNat + 1 by omega]
        show iO (icF (pvF (csI s) (csNi s) 1 r.2.2) (csNi s).toNat) (iSl 1 (pvF (csI s) (csNi s) 1 r.2.2 ((csNi s).toNat : Int))) = _
        have ea : icF (pvF (csI s) (csNi s) 1 r.2.2) (csNi s).toNat = icF (csI s) (csNi s).toNat := icF_cg _ (fun b q1 q2 => by unfold pvF; rw [if_neg (by omega)])
        have eb : pvF (csI s) (csNi s) 1 r.2.2 ((csNi s).toNat : Int) = r.2.2 0 := by
          unfold pvF
          rw [if_pos (by omega), show ((csNi s).toNat : Int) - csNi s = 0 by omega]
        rw [ea, eb]
      have keepTw : noTw (adK 2 r.2.2 s) ↔ noTw s ∧ bit (icF (csI s) (csNi s).toNat) (r.2.2 0) ≠ 1 := by
        have ead : ∀ x, x < csNi s → csI (adK 2 r.2.2 s) x = csI s x := fun x hx => by
          show pvF (csI s) (csNi s) 1 r.2.2 x = csI s x
          unfold pvF
          rw [if_neg (by omega)]
        have eal : csI (adK 2 r.2.2 s) (csNi s) = r.2.2 0 := by
          show pvF (csI s) (csNi s) 1 r.2.2 (csNi s) = r.2.2 0
          unfold pvF
          rw [if_pos (by omega), show csNi s - csNi s = 0 by omega]
        have ean : csNi (adK 2 r.2.2 s) = csNi s + 1 := rfl
        constructor
        · intro hh
          refine ⟨fun k o q1 q2 q3 => ?_, fun e => ?_⟩
          · have := hh k o q1 q2 (by omega)
            rw [ead k q3, ead o (by omega)] at this
            exact this
          · obtain ⟨o, q1, q2, q3⟩ := (c2 (r.2.2 0) (by omega) (by omega)).mp e
            have := hh (csNi s) o q1 (by omega) (by omega)
            rw [ead o (by omega), eal] at this
            exact this q3
        · rintro ⟨hh, he⟩ k o q1 q2 q3
          by_cases zk2 : k = csNi s
          · rw [zk2, eal, ead o (by omega)]
            intro e
            exact he ((c2 (r.2.2 0) (by omega) (by omega)).mpr ⟨o, q1, by omega, e⟩)
          · rw [ead k (by omega), ead o (by omega)]
            exact hh k o q1 q2 (by omega)
      have build : ∀ v6 : Int, ((v6 = 0 ∧ noTw (adK 2 r.2.2 s)) ∨ (v6 = 1 ∧ ¬ noTw (adK 2 r.2.2 s))) → CSt (up (up m2 c 6 v6) c 5 (iO (m2 c 5) (iSl 1 (m2 4 0)))) c (adK 2 r.2.2 s) := by
        intro v6 hv6
        refine ⟨fun j q1 q2 => ?_, ?_, fun j q1 q2 => ?_, ?_, fun j q1 q2 => ?_, ?_, ?_, ?_, ?_, ?_, ?_⟩
        · rw [up_ne (Or.inl (by omega)), up_ne (Or.inl (by omega)), g1]; exact S1 j q1 q2
        · rw [up_ne (Or.inr (by decide)), up_ne (Or.inr (by decide)), g0]; exact S2
        · rw [up_ne (Or.inl (by omega)), up_ne (Or.inl (by omega)), g2]; exact S3 j q1 q2
        · rw [up_ne (Or.inr (by decide)), up_ne (Or.inr (by decide)), g0]; exact S4
        · rw [up_ne (Or.inl (by omega)), up_ne (Or.inl (by omega)), g3]; exact S5 j q1 q2
        · rw [up_same, ec5, hI]; exact eic.symm
        · rw [up_ne (Or.inr (by decide)), up_same]; exact hv6
        · rw [up_off (by omega), up_off (by omega), b5]; exact S8.1
        · rw [up_off (by omega), up_off (by omega), b5]; exact S8.2.1
        · rw [up_off (by omega), up_off (by omega), b5]; rfl
        · rw [up_off (by omega), up_off (by omega), b5]; exact S8.2.2.2
      have fr3 : ∀ v6 v5 : Int, Fr (drL c) m (up (up m2 c 6 v6) c 5 v5) := fun v6 v5 => (fr2'.up (by simp)).up (by simp)
      have at3 : ∀ v6 v5 : Int, (up (up m2 c 6 v6) c 5 v5) 3 3 = r.2.1 := fun v6 v5 => by rw [up_ne (Or.inl (by omega)), up_ne (Or.inl (by omega))]; exact w2
      have ebit : iA (iSr (m2 c 5) (m2 4 0)) 1 = bit (icF (csI s) (csNi s).toNat) (r.2.2 0) := by rw [ec5, hI]; rfl
      refine K_addIcew hB hc ⟨by omega, fun q => ?_, fun q => ⟨fun q2 => ?_, fun q2 => ?_⟩⟩
      · exact fin _ (fr3 1 _) (at3 1 _) (build 1 (Or.inr ⟨rfl, fun hh => by
          rcases S7 with ⟨y1, y2⟩ | ⟨y1, y2⟩
          · omega
          · exact y2 (keepTw.mp hh).1⟩))
      · rw [ebit] at q2
        refine fin _ (fr3 0 _) (at3 0 _) (build 0 (Or.inl ⟨rfl, ?_⟩))
        rcases S7 with ⟨y1, y2⟩ | ⟨y1, y2⟩
        · exact keepTw.mpr ⟨y2, q2⟩
        · omega
      · rw [ebit] at q2
        exact fin _ (fr3 1 _) (at3 1 _) (build 1 (Or.inr ⟨rfl, fun hh => (keepTw.mp hh).2 q2⟩))
    · -- a bump
      subst z1
      have zc' : csNb s < 6 := by
        have : mxK 1 = 6 := rfl
        have : ctK 1 s = csNb s := rfl
        omega
      have ec3 : m2 c 3 = csNb s := by rw [g0]; exact S2
      refine K_addBumpw hB hc ⟨by omega, fun q => by omega, fun _ => ⟨by omega, fin _ ((fr2'.upR (by simp)).up (by simp)) (by rw [up_ne (Or.inl (by omega)), upR_off (by omega)]; exact w2) ?_⟩⟩
      rw [ec3]
      refine ⟨fun j q1 q2 => ?_, ?_, fun j q1 q2 => ?_, ?_, fun j q1 q2 => ?_, ?_, ?_, ?_, ?_, ?_, ?_⟩
      · rw [up_ne (Or.inl (by omega)), upR_off (by omega), g1]; exact S1 j q1 q2
      · rw [up_same]; rfl
      · have q2' : j < 4 * (csNb s + 1) := q2
        rw [up_ne (Or.inl (by omega))]
        show _ = pvF (csB s) (4 * csNb s) 4 r.2.2 j
        unfold pvF
        by_cases zj : 4 * csNb s ≤ j
        · rw [upR_in (by omega), if_pos (by omega)]
          show m2 4 (j - 4 * csNb s + 0) = _
          rw [Int.add_zero]
          exact w3 _ (by omega) (by show j - 4 * csNb s < 4; omega)
        · rw [upR_out (by omega), if_neg (by omega), g2]
          exact S3 j q1 (by omega)
      · rw [up_ne (Or.inr (by decide)), upR_off (by omega), g0]; exact S4
      · rw [up_ne (Or.inl (by omega)), upR_off (by omega), g3]; exact S5 j q1 q2
      · rw [up_ne (Or.inr (by decide)), upR_off (by omega), g0]; exact S6
      · rw [up_ne (Or.inr (by decide)), upR_off (by omega), g0]; exact S7
      · rw [up_off (by omega), upR_off (by omega), b5]; exact S8.1
      · rw [up_off (by omega), upR_off (by omega), b5]; rfl
      · rw [up_off (by omega), upR_off (by omega), b5]; exact S8.2.2.1
      · rw [up_off (by omega), upR_off (by omega), b5]; exact S8.2.2.2
    · -- the rules
      subst z0
      have zc' : csS s = 0 := by
        have : mxK 0 = 1 := rfl
        have : ctK 0 s = csS s := rfl
        omega
      refine fin _ (fr2'.upR (by simp)) (by rw [upR_off (by omega)]; exact w2) ?_
      refine ⟨fun j q1 q2 => ?_, ?_, fun j q1 q2 => ?_, ?_, fun j q1 q2 => ?_, ?_, ?_, ?_, ?_, ?_, ?_⟩
      · rw [upR_in (by omega)]
        show m2 4 (j - 0 + 0) = pvF (csR s) 0 5 r.2.2 j
        unfold pvF
        rw [if_pos (by omega), show j - 0 + 0 = j by omega, show j - 0 = j by omega]
        exact w3 j q1 q2
      · rw [upR_off (by omega), g0]; exact S2
      · rw [upR_off (by omega), g2]; exact S3 j q1 q2
      · rw [upR_off (by omega), g0]; exact S4
      · rw [upR_off (by omega), g3]; exact S5 j q1 q2
      · rw [upR_off (by omega), g0]; exact S6
      · rw [upR_off (by omega), g0]; exact S7
      · rw [upR_off (by omega), b5]
        show (if (0 : Int) = 0 then csS s + 1 else m 5 0) = 1
        rw [if_pos rfl]; omega
      · rw [upR_off (by omega), b5]; exact S8.2.1
      · rw [upR_off (by omega), b5]; exact S8.2.2.1
      · rw [upR_off (by omega), b5]; exact S8.2.2.2
end CCan2
