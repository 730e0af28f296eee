/-! ===== the class reads a canton ===== -/
def itS (kd c : Int) : Nat → Int → Int
  | 0, _ => -1
  | k + 1, i => if gx xLET i = c then i - ftK kd else itS kd c k (i + 1)
theorem itS_e : ∀ kd : Nat, kd < 4 → ∀ c : Nat, c < 256 → itS kd c (mnK kd).toNat (ftK kd) = itO kd c := by decide +kernel
theorem ft4 : ∀ kd : Nat, kd < 4 → 0 ≤ ftK kd ∧ ftK kd + mnK kd = ftK (kd + 1) ∧ ftK (kd + 1) ≤ 14 ∧ 1 ≤ mnK kd := by decide
theorem xLET_r : ∀ i : Nat, i < 14 → 0 ≤ gx xLET i ∧ gx xLET i ≤ 255 := by decide
theorem ft_r {kd : Int} (h : 0 ≤ kd ∧ kd < 4) : 0 ≤ ftK kd ∧ ftK kd + mnK kd = ftK (kd + 1) ∧ ftK (kd + 1) ≤ 14 ∧ 1 ≤ mnK kd := by
  have := ft4 kd.toNat (by omega)
  rw [show ((kd.toNat : Nat) : Int) = kd by omega] at this
  exact this
section CCan
variable {X : Cx} {d : Nat} {m : Mm} {Q : Int → Mm → Prop} {Q0 : Mm → Prop} {T : Int → Int} {n kd : Int}
theorem R_item_6 (hB : Bsh X.2.2.1) (hB2 : X.2.2.1.length ≤ 1000000) (hfv : X.2.1 = .null ∨ X.2.1 = .ref (aK + 9)) (hkd : 0 ≤ kd ∧ kd < 4) {c : Int} (hc : 0 ≤ c ∧ c ≤ 255) : ∀ (k : Nat) (i : Int), 0 ≤ i → i + k = ftK (kd + 1) → Q (itS kd c k i) m → R_itemOf_6 X (d + 4) kd c i m Q := by
  have hf := ft_r hkd
  intro k
  induction k with
  | zero =>
    intro i h0 hi h
    have e : gx xFIRST (kd + 1) = ftK (kd + 1) := rfl
    refine R_itemOf_6w hB hB2 ⟨by omega, by omega, by rw [e]; omega, fun _ => h, fun z => by rw [e] at z; omega⟩
  | succ k ih =>
    intro i h0 hi h
    have e : gx xFIRST (kd + 1) = ftK (kd + 1) := rfl
    have hx := xLET_r i.toNat (by omega)
    rw [show ((i.toNat : Nat) : Int) = i by omega] at hx
    unfold itS at h
    refine R_itemOf_6w hB hB2 ⟨by omega, by omega, by rw [e]; omega, fun z => by rw [e] at z; omega, fun _ => Z_char_c hB2 hfv (by omega) ⟨by omega, by omega, fun z => ?_, fun z => ⟨by omega, ?_⟩⟩⟩
    · rw [if_neg z] at h
      exact ih (i + 1) (by omega) (by omega) h
    · rw [if_pos z] at h
      exact h
theorem R_item_c (hB : Bsh X.2.2.1) (hB2 : X.2.2.1.length ≤ 1000000) (hfv : X.2.1 = .null ∨ X.2.1 = .ref (aK + 9)) (hkd : 0 ≤ kd ∧ kd < 4) {c : Int} (hc : 0 ≤ c ∧ c ≤ 255) (h : Q (itO kd c) m) : R_itemOf X (d + 4) kd c m Q := by
  have hf := ft_r hkd
  have e := itS_e kd.toNat (by omega) c.toNat (by omega)
  rw [show ((kd.toNat : Nat) : Int) = kd by omega, show ((c.toNat : Nat) : Int) = c by omega] at e
  rw [← e] at h
  have hm := mnK_le kd
  exact R_itemOfw hB hB2 ⟨by omega, R_item_6 hB hB2 hfv hkd hc (mnK kd).toNat (ftK kd) hf.1 (by omega) h⟩
theorem adv3 (m : Mm) (b : Int) : up (up m 3 3 b) 3 3 (up m 3 3 b 3 3 + 1) = up m 3 3 (b + 1) := by rw [up_same, up_up]
theorem TpC.a3 {T : Int → Int} {n v : Int} {m : Mm} (h : TpC T n m) : TpC T n (up m 3 3 v) := h.fr (up_off (by decide)) (up_off (by decide))
/-- a number's end -/
theorem R_num_100 (hB : Bsh X.2.2.1) (hB2 : X.2.2.1.length ≤ 1000000) (hT : TOk T n) (hkd : 0 ≤ kd ∧ kd < 4) {i v : Int} (hi : 0 ≤ i ∧ i < mnK kd) (hv : -100 ≤ v ∧ v ≤ 1000) (hm : TpC T n m) (ha : 0 < m 3 3 ∧ m 3 3 ≤ n) (h : ∀ m', Fr [3, 4] m m' → m' 3 3 = (nC2 T n (m 3 3) (loK kd i) (hiK kd i) v).2.1 → ((nC2 T n (m 3 3) (loK kd i) (hiK kd i) v).1 = true → m' 4 = fun j => if j = i then v else m 4 j) → Q (b2i (nC2 T n (m 3 3) (loK kd i) (hiK kd i) v).1) m') : R_readNumber_100 X (d + 1) kd i v m Q := by
  have hf := ft_r hkd
  have h5 := mnK_le kd
  have tb := tbK kd.toNat (by omega) i.toNat (by omega) (by rw [show ((kd.toNat : Nat) : Int) = kd by omega, show ((i.toNat : Nat) : Int) = i by omega]; exact hi.2)
  rw [show ((kd.toNat : Nat) : Int) = kd by omega, show ((i.toNat : Nat) : Int) = i by omega] at tb
  have elo : gx xLOW (gx xFIRST kd + i) = loK kd i := rfl
  have ehi : gx xHIGH (gx xFIRST kd + i) = hiK kd i := rfl
  have eft : gx xFIRST kd = ftK kd := rfl
  unfold nC2 at h
  refine R_readNumber_100w hB hB2 (B_digit_c hB hT hm (by omega) ha.2 (fun hd => ⟨by decide, fun e => absurd e (by decide), fun _ => ?_⟩) (fun hd => ⟨by decide, fun _ => ⟨by omega, by rw [eft]; exact tb.2.2, by omega, by rw [elo]; omega, fun z => ?_, fun z => ⟨by rw [ehi]; omega, fun z2 => ⟨by omega, ?_⟩, fun z2 => ?_⟩⟩, fun e => absurd rfl e⟩))
  · rw [if_pos hd] at h
    exact h m (Fr.rf _ _) rfl (fun e => by cases e)
  · rw [elo] at z
    rw [if_neg hd, if_pos (Or.inl z)] at h
    exact h _ ((Fr.rf _ _).up (by simp)) (up_same _ _ _ _) (fun e => by cases e)
  · rw [elo] at z
    rw [ehi] at z2
    rw [if_neg hd, if_neg (by omega)] at h
    refine h _ ((Fr.rf _ _).up (by simp)) (up_ne (Or.inl (by decide))) (fun _ => ?_)
    funext j
    rw [up_at]
  · rw [elo] at z
    rw [ehi] at z2
    rw [if_neg hd, if_pos (Or.inr z2)] at h
    exact h _ ((Fr.rf _ _).up (by simp)) (up_same _ _ _ _) (fun e => by cases e)
theorem R_num_c (hB : Bsh X.2.2.1) (hB2 : X.2.2.1.length ≤ 1000000) (hT : TOk T n) (hkd : 0 ≤ kd ∧ kd < 4) {i : Int} (hi : 0 ≤ i ∧ i < mnK kd) (hm : TpC T n m) (ha : 0 ≤ m 3 3 ∧ m 3 3 ≤ n) (h : ∀ m', Fr [3, 4] m m' → m' 3 3 = (nmC T n (m 3 3) (loK kd i) (hiK kd i)).2.1 → ((nmC T n (m 3 3) (loK kd i) (hiK kd i)).1 = true → m' 4 = fun j => if j = i then (nmC T n (m 3 3) (loK kd i) (hiK kd i)).2.2 else m 4 j) → Q (b2i (nmC T n (m 3 3) (loK kd i) (hiK kd i)).1) m') : R_readNumber X (d + 1) kd i m Q := by
  have hn := hT.1
  have hk := sk_ge T n (m 3 3)
  have hk2 := sk_le (T := T) ha.2
  unfold nmC at h
  refine R_readNumberw hB hB2 (B_blanks hB hT hm ha.1 ha.2 ?_)
  generalize sk T n (m 3 3) = b at h hk hk2 ⊢
  refine B_digit_c hB hT hm.a3 (by omega) hk2 (fun hd => ⟨by decide, fun _ => ?_, fun e => absurd e (by decide)⟩) (fun hd => ⟨by decide, fun e => absurd rfl e, fun _ => ?_⟩)
  · rw [if_pos hd] at h
    have hz := sgn_nz (T := T) (n := n) (a := b) (by omega)
    have e3 : (up m 3 3 b) 3 3 = b := up_same _ _ _ _
    have e4 : (up m 3 3 b) 4 = m 4 := up_off (by decide)
    rw [e3]
    refine B_sign_c hB hT hm.a3 (by omega) hk2 ?_
    rw [adv3, e3]
    unfold nC1 at h
    refine B_digit_c hB hT hm.a3 (by omega) (by omega) (fun hd2 => ⟨by decide, fun e => absurd e (by decide), fun _ => ?_⟩) (fun hd2 => ⟨by decide, fun _ => ?_, fun e => absurd rfl e⟩)
    · rw [if_pos hd2] at h
      have hz2 := sgn_nz (T := T) (n := n) (a := b + 1) (by omega)
      have f3 : (up m 3 3 (b + 1)) 3 3 = b + 1 := up_same _ _ _ _
      rw [f3]
      refine B_sign_c hB hT hm.a3 (by omega) (by omega) ?_
      rw [f3, up_up, show b + 1 + 1 = b + 2 by omega]
      have g3 : (up m 3 3 (b + 2)) 3 3 = b + 2 := up_same _ _ _ _
      refine R_num_100 hB hB2 hT hkd hi (by omega) hm.a3 (by rw [g3]; omega) (fun m' w1 w2 w3 => h m' (((Fr.rf _ m).up (by simp)).tr w1) ?_ (fun e => ?_))
      · rw [w2, g3]
      · rw [g3] at w3
        have := w3 e
        rw [up_off (by decide)] at this
        rw [this]
        unfold nC2 at e ⊢
        by_cases q1 : 48 ≤ sgn T n (b + 2) ∧ sgn T n (b + 2) ≤ 57
        · rw [if_pos q1] at e; cases e
        · rw [if_neg q1] at e ⊢
          by_cases q2 : 10 * sgn T n b + sgn T n (b + 1) - 528 < loK kd i ∨ hiK kd i < 10 * sgn T n b + sgn T n (b + 1) - 528
          · rw [if_pos q2] at e; cases e
          · rw [if_neg q2]
    · rw [if_neg hd2] at h
      have f3 : (up m 3 3 (b + 1)) 3 3 = b + 1 := up_same _ _ _ _
      refine R_num_100 hB hB2 hT hkd hi (by omega) hm.a3 (by rw [f3]; omega) (fun m' w1 w2 w3 => h m' (((Fr.rf _ m).up (by simp)).tr w1) ?_ (fun e => ?_))
      · rw [w2, f3]
      · rw [f3] at w3
        have := w3 e
        rw [up_off (by decide)] at this
        rw [this]
        unfold nC2 at e ⊢
        by_cases q1 : 48 ≤ sgn T n (b + 1) ∧ sgn T n (b + 1) ≤ 57
        · rw [if_pos q1] at e; cases e
        · rw [if_neg q1] at e ⊢
          by_cases q2 : sgn T n b - 48 < loK kd i ∨ hiK kd i < sgn T n b - 48
          · rw [if_pos q2] at e; cases e
          · rw [if_neg q2]
  · rw [if_neg hd] at h
    exact h _ ((Fr.rf _ _).up (by simp)) (up_same _ _ _ _) (fun e => by cases e)
/-- items -/
def itEnd (T : Int → Int) (n : Int) (r : Bool × Int × (Int → Int)) : Bool := r.1 && (decide (sgn T n r.2.1 = 0) || decide (sgn T n r.2.1 = 59))
theorem R_items_4 (hB : Bsh X.2.2.1) (hB2 : X.2.2.1.length ≤ 1000000) (hfv : X.2.1 = .null ∨ X.2.1 = .ref (aK + 9)) (hT : TOk T n) (hkd : 0 ≤ kd ∧ kd < 4) {m0 : Mm} : ∀ (k : Nat) (tl l3 : Int) (o4 o5 : Option Int) (m : Mm) (v : Int → Int), k ≤ 241 → l3 = 241 - k → TpC T n m → (0 ≤ m 3 3 ∧ m 3 3 ≤ n) → Fr [3, 4] m0 m → (∀ j, 0 ≤ j → j < mnK kd → m 4 j = v j) → (∀ m', Fr [3, 4] m0 m' → m' 3 3 = (itsP T n kd k tl (m 3 3) v).2.1 → (itEnd T n (itsP T n kd k tl (m 3 3) v) = true → ∀ j, 0 ≤ j → j < mnK kd → m' 4 j = (itsP T n kd k tl (m 3 3) v).2.2 j) → Q (b2i (itEnd T n (itsP T n kd k tl (m 3 3) v))) m') → R_readItems_4 X (d + 5) kd tl l3 o4 o5 m Q := by
  have hn := hT.1
  intro k
  induction k with
  | zero =>
    intro tl l3 o4 o5 m v hk hl hm ha hf hv h
    exact R_readItems_4w hB ⟨by omega, fun _ => h m hf rfl (fun e => by cases e), fun z => by omega⟩
  | succ k ih =>
    intro tl l3 o4 o5 m v hk hl hm ha hf hv h
    have hk1 := sk_ge T n (m 3 3)
    have hk2 := sk_le (T := T) ha.2
    have hsr := sgn_r hT (a := sk T n (m 3 3)) (by omega)
    have hir := itO_r (kd := kd) (c := sgn T n (sk T n (m 3 3)))
    have h5 := mnK_le kd
    have hno := itO_no kd
    unfold itsP at h
    refine R_readItems_4w hB ⟨by omega, fun z => by omega, fun _ => B_blanks hB hT hm ha.1 ha.2 (B_sign_c hB hT hm.a3 (by omega) hk2 ?_)⟩
    generalize sk T n (m 3 3) = b at h hk1 hk2 hsr hir ⊢
    have hu : (up m 3 3 b) 4 = m 4 := up_off (by decide)
    have stop : ∀ q : Bool, (decide (sgn T n b = 0) || decide (sgn T n b = 59)) = q → (itO kd (sgn T n b) = -1 ∨ bit tl (itO kd (sgn T n b)) = 1) → Q (b2i q) (up m 3 3 b) := by
      intro q hq hst
      rw [if_pos hst] at h
      have := h (up m 3 3 b) (hf.up (by simp)) (up_same _ _ _ _) (fun _ j h1 h2 => by rw [hu]; exact hv j h1 h2)
      have e : itEnd T n (true, b, v) = q := by
        show (true && (decide (sgn T n b = 0) || decide (sgn T n b = 59))) = q
        rw [Bool.true_and]
        exact hq
      rw [e] at this
      exact this
    refine ⟨by omega, fun z => ?_, fun z => ⟨fun z2 => R_item_c hB hB2 hfv hkd hsr ⟨by omega, fun z3 => ?_, fun z3 => ⟨fun z4 => ?_, fun z4 => ?_⟩⟩, fun z2 => ?_⟩⟩
    · exact stop true (by rw [decide_eq_true z]; rfl) (Or.inl (by rw [z]; exact hno.1))
    · exact stop false (by rw [decide_eq_false z, decide_eq_false z2]; rfl) (Or.inl z3)
    · have hnst : ¬ (itO kd (sgn T n b) = -1 ∨ bit tl (itO kd (sgn T n b)) = 1) := by
        rintro (q | q)
        · exact z3 q
        · exact z4 q
      rw [if_neg hnst] at h
      have hz := sgn_nz (T := T) (n := n) (a := b) (by omega)
      generalize itO kd (sgn T n b) = i at h hir z3 z4 hnst ⊢
      rw [adv3]
      have f3 : (up m 3 3 (b + 1)) 3 3 = b + 1 := up_same _ _ _ _
      have hr := nmC_r (T := T) (n := n) (a := b + 1) (lo := loK kd i) (hi := hiK kd i) (by omega) (by omega)
      refine R_num_c hB hB2 hT hkd (by omega) hm.a3 (by rw [f3]; omega) (fun m1 w1 w2 w3 => ?_)
      rw [f3] at w2 w3 ⊢
      generalize nmC T n (b + 1) (loK kd i) (hiK kd i) = r at h hr w2 w3 ⊢
      have hf1 : Fr [3, 4] m0 m1 := (hf.up (by simp)).tr w1
      have hm1 : TpC T n m1 := hm.fr (by rw [w1 1 (by decide), up_off (by decide)]) (by rw [w1 2 (by decide), up_off (by decide)])
      cases hb : r.1 with
      | false =>
        rw [if_pos hb] at h
        exact ⟨by decide, fun e => absurd rfl e, fun _ => h m1 hf1 w2 (fun e => by cases e)⟩
      | true =>
        rw [if_neg (by rw [hb]; decide)] at h
        have w3 := w3 hb
        have hr2 := hr.2.2 hb
        refine ⟨by decide, fun _ => ?_, fun e => absurd e (by decide)⟩
        refine ih _ (l3 + 1) _ _ m1 (fun j => if j = i then r.2.2 else v j) (by omega) (by omega) hm1 (by omega) hf1 (fun j h1 h2 => ?_) (fun m' y1 y2 y3 => ?_)
        · rw [w3, up_off (by decide)]
          show (if j = i then r.2.2 else m 4 j) = if j = i then r.2.2 else v j
          rw [hv j h1 h2]
        · rw [w2] at y2 y3 ⊢
          exact h m' y1 y2 y3
    · exact stop false (by rw [decide_eq_false z, decide_eq_false z2]; rfl) (Or.inr z4)
    · exact stop true (by rw [decide_eq_true z2, Bool.or_true]) (Or.inl (by rw [z2]; exact hno.2))
end CCan
