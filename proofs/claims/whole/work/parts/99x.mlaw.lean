/-! ===== the reference reads a law ===== -/
def TpM (T : Int → Int) (n : Int) (m : Mm) : Prop := m 83 2 = n ∧ ∀ j, 0 ≤ j → j < n → m 84 j = T j
theorem TpM.fr {T : Int → Int} {n : Int} {m m' : Mm} (h : TpM T n m) (h1 : m' 83 2 = m 83 2) (h2 : m' 84 = m 84) : TpM T n m' := by
  unfold TpM at h ⊢
  rw [h1, h2]
  exact h
def sgM (T : Int → Int) (n a : Int) : Int := if a < n then T a else -1
theorem sgM_c {T : Int → Int} {n a : Int} (h : TOk T n) (h0 : 0 ≤ a) : (sgM T n a = -1 ∧ sgn T n a = 0) ∨ (sgM T n a = sgn T n a ∧ 1 ≤ sgn T n a ∧ sgn T n a ≤ 255) := by
  unfold sgM sgn
  by_cases z : a < n
  · rw [if_pos z, if_pos z]
    exact Or.inr ⟨rfl, h.2 a h0 z⟩
  · rw [if_neg z, if_neg z]
    exact Or.inl ⟨rfl, rfl⟩
/-- what reading changes -/
def FrR (tx : Int) (m m' : Mm) : Prop := Fr [83, 85, 86, 87] m m' ∧ (∀ k, k ≠ 3 → k ≠ 4 → k ≠ 5 → m' 83 k = m 83 k) ∧ (∀ i, i ≠ tx → m' 87 i = m 87 i) ∧ (∀ j, (j < 520 * tx + m 87 tx ∨ 520 * tx + 520 ≤ j) → m' 85 j = m 85 j ∧ m' 86 j = m 86 j) ∧ m 87 tx ≤ m' 87 tx
theorem FrR.rf (tx : Int) (m : Mm) : FrR tx m m := ⟨Fr.rf _ _, fun _ _ _ _ => rfl, fun _ _ => rfl, fun _ _ => ⟨rfl, rfl⟩, Int.le_refl _⟩
theorem FrR.tr {tx : Int} {m m1 m2 : Mm} (h1 : FrR tx m m1) (h2 : FrR tx m1 m2) : FrR tx m m2 := by
  obtain ⟨a1, a2, a3, a4, a5⟩ := h1
  obtain ⟨b1, b2, b3, b4, b5⟩ := h2
  exact ⟨a1.tr b1, fun k x y z => (b2 k x y z).trans (a2 k x y z), fun i hi => (b3 i hi).trans (a3 i hi), fun j hj => ⟨(b4 j (by omega)).1.trans (a4 j hj).1, (b4 j (by omega)).2.trans (a4 j hj).2⟩, by omega⟩
theorem FrR.u3 {tx : Int} {m m1 : Mm} (h : FrR tx m m1) {k v : Int} (hk : k = 3 ∨ k = 4 ∨ k = 5) : FrR tx m (up m1 83 k v) := by
  obtain ⟨a1, a2, a3, a4, a5⟩ := h
  refine ⟨a1.up (by simp), fun j x y z => by rw [up_ne (Or.inr (by omega))]; exact a2 j x y z, fun i hi => by rw [up_ne (Or.inl (by decide))]; exact a3 i hi, fun j hj => by rw [up_ne (Or.inl (by decide)), up_ne (Or.inl (by decide))]; exact a4 j hj, by rw [up_ne (Or.inl (by decide))]; exact a5⟩
theorem TpM.r {T : Int → Int} {n tx : Int} {m m' : Mm} (h : TpM T n m) (hf : FrR tx m m') : TpM T n m' := h.fr (hf.2.1 2 (by decide) (by decide) (by decide)) (hf.1 84 (by decide))
/-- codes put since m -/
def stM (tx : Int) (m m' : Mm) (cs : Cd) : Prop := m' 87 tx = m 87 tx + cs.length ∧ ∀ j : Nat, j < cs.length → m' 85 (520 * tx + m 87 tx + j) = (cs.getD j (0, 0)).1 ∧ m' 86 (520 * tx + m 87 tx + j) = (cs.getD j (0, 0)).2
theorem stM.rf {tx : Int} {m m' : Mm} (h : m' 87 tx = m 87 tx) : stM tx m m' [] := ⟨by rw [h]; show _ = _ + ((0 : Nat) : Int); omega, fun j hj => absurd hj (Nat.not_lt_zero _)⟩
theorem stM.tr {tx : Int} {m m1 m2 : Mm} {a b : Cd} (h1 : stM tx m m1 a) (h2 : stM tx m1 m2 b) (hf : FrR tx m1 m2) : stM tx m m2 (a ++ b) := by
  obtain ⟨a1, a2⟩ := h1
  obtain ⟨b1, b2⟩ := h2
  refine ⟨by rw [b1, a1, List.length_append]; omega, fun j hj => ?_⟩
  rw [List.length_append] at hj
  by_cases z : j < a.length
  · have hk := hf.2.2.2.1 (520 * tx + m 87 tx + j) (by omega)
    rw [hk.1, hk.2, List.getD_eq_getElem?_getD, List.getElem?_append_left z, ← List.getD_eq_getElem?_getD]
    exact a2 j z
  · have := b2 (j - a.length) (by omega)
    rw [List.getD_eq_getElem?_getD, List.getElem?_append_right (by omega), ← List.getD_eq_getElem?_getD]
    have e : 520 * tx + m1 87 tx + ((j - a.length : Nat) : Int) = 520 * tx + m 87 tx + j := by omega
    rw [e] at this
    exact this
theorem stM.base {tx : Int} {m m1 m' : Mm} {cs : Cd} (h : stM tx m1 m' cs) (h2 : m1 87 tx = m 87 tx) : stM tx m m' cs := by
  unfold stM at h ⊢
  rw [h2] at h
  exact h
theorem stM.en {tx : Int} {m m' m2 : Mm} {cs : Cd} (h : stM tx m m' cs) (h85 : m2 85 = m' 85) (h86 : m2 86 = m' 86) (h87 : m2 87 = m' 87) : stM tx m m2 cs := by
  unfold stM at h ⊢
  rw [h85, h86, h87]
  exact h
/-- what a reader leaves -/
def mRes (n tx : Int) (e : Nat) (m m' : Mm) (r : Rr) : Prop := FrR tx m m' ∧ m' 87 tx - m 87 tx ≤ m' 83 3 - m 83 3 ∧ m' 83 3 ≤ n + e + 1 ∧ (r.1 = true → m' 83 4 = -1 ∧ m' 83 3 = r.2.1 ∧ m' 83 5 = m 83 5 ∧ stM tx m m' r.2.2) ∧ (r.1 = false → m' 83 4 = r.2.1)
/-- a reader of the reference -/
def MJ (T : Int → Int) (n tx : Int) (e : Nat) (J : Mm → (Mm → Prop) → Prop) (F : Int → Rr) : Prop := ∀ (m : Mm) (Q : Mm → Prop), TpM T n m → m 83 14 = tx → m 83 4 = -1 → m 83 5 = 6 - e → (0 ≤ m 83 3 ∧ m 83 3 ≤ n) → (0 ≤ m 87 tx ∧ m 87 tx ≤ m 83 3) → (∀ m', mRes n tx e m m' (F (m 83 3)) → Q m') → J m Q
theorem MJ.at {T : Int → Int} {n tx : Int} {e : Nat} {J : Mm → (Mm → Prop) → Prop} {F : Int → Rr} (hJ : MJ T n tx e J F) {m : Mm} {Q : Mm → Prop} {a : Int} (ea : m 83 3 = a) (hm : TpM T n m) (ht : m 83 14 = tx) (hw : m 83 4 = -1) (hd : m 83 5 = 6 - e) (ha : 0 ≤ a ∧ a ≤ n) (hs : 0 ≤ m 87 tx ∧ m 87 tx ≤ a) (h : ∀ m', mRes n tx e m m' (F a) → Q m') : J m Q := by
  subst ea
  exact hJ m Q hm ht hw hd ha hs h
theorem mRes.tr {n tx : Int} {e : Nat} {m m1 m2 : Mm} {r q : Rr} (h1 : mRes n tx e m m1 r) (hb : r.1 = true) (h2 : mRes n tx e m1 m2 q) : mRes n tx e m m2 (q.1, q.2.1, r.2.2 ++ q.2.2) := by
  obtain ⟨a1, a2, a3, a4, a5⟩ := h1
  obtain ⟨b1, b2, b3, b4, b5⟩ := h2
  obtain ⟨c1, c2, c3, c4⟩ := a4 hb
  exact ⟨a1.tr b1, by omega, b3, fun e => ⟨(b4 e).1, (b4 e).2.1, (b4 e).2.2.1.trans c3, c4.tr (b4 e).2.2.2 b1⟩, b5⟩
/-- moved on ahead of the reading -/
theorem mRes.u3 {n tx : Int} {e : Nat} {m m' : Mm} {v : Int} {r : Rr} (h : mRes n tx e (up m 83 3 v) m' r) (hv : m 83 3 ≤ v) : mRes n tx e m m' r := by
  obtain ⟨a1, a2, a3, a4, a5⟩ := h
  rw [up_ne (Or.inl (by decide)), up_same] at a2
  refine ⟨(FrR.u3 (FrR.rf tx m) (Or.inl rfl)).tr a1, by omega, a3, fun e => ?_, a5⟩
  obtain ⟨b1, b2, b3, b4⟩ := a4 e
  exact ⟨b1, b2, by rw [b3, up_ne (Or.inr (by decide))], b4.base (up_ne (Or.inl (by decide)))⟩
theorem mRes.stop {n tx : Int} {e : Nat} {m : Mm} {b : Int} (hb : m 83 3 ≤ b) (hn : b ≤ n) : mRes n tx e m (up (up m 83 3 b) 83 4 b) (false, b, []) := ⟨((FrR.rf tx m).u3 (Or.inl rfl)).u3 (Or.inr (Or.inl rfl)), by rw [up_ne (Or.inl (by decide)), up_ne (Or.inl (by decide)), up_ne (Or.inr (by decide)), up_same]; omega, by rw [up_ne (Or.inr (by decide)), up_same]; omega, (fun e => by cases e), fun _ => up_same _ _ _ _⟩
theorem adv83 (m : Mm) (b : Int) : up (up m 83 3 b) 83 3 (up m 83 3 b 83 3 + 1) = up m 83 3 (b + 1) := by rw [up_same, up_up]
theorem TpM.at3 {T : Int → Int} {n v : Int} {m : Mm} (h : TpM T n m) : TpM T n (up m 83 3 v) := h.fr (up_ne (Or.inr (by decide))) (up_off (by decide))
section MLaw1
variable {X : Cx} {d : Nat} {m : Mm} {Q : Int → Mm → Prop} {Q0 : Mm → Prop} {T : Int → Int} {n tx : Int}
theorem M_here_c (hB : Bsh X.2.2.1) (hT : TOk T n) (hm : TpM T n m) (h0 : 0 ≤ m 83 3 ∧ m 83 3 ≤ 1000) (h : Q (sgM T n (m 83 3)) m) : M_here X d m Q := by
  have hn := hT.1
  unfold sgM at h
  refine M_herew hB ⟨by omega, by rw [hm.1]; omega, fun z => ?_, fun z => ⟨by rw [hm.1] at z; omega, ?_⟩⟩
  · rw [hm.1] at z
    rw [if_neg (by omega)] at h
    exact h
  · rw [hm.1] at z
    rw [if_pos z] at h
    rw [hm.2 _ h0.1 z]
    exact h
theorem M_look_k (hB : Bsh X.2.2.1) (hT : TOk T n) : ∀ (k : Nat) (m : Mm), TpM T n m → (0 ≤ m 83 3 ∧ m 83 3 ≤ 1000) → (n - m 83 3).toNat = k → Q (sgM T n (sk T n (m 83 3))) (up m 83 3 (sk T n (m 83 3))) → M_look X (d + 1) m Q := by
  have hn := hT.1
  intro k
  induction k with
  | zero =>
    intro m hm h0 hk h
    have e : sgM T n (m 83 3) = -1 := by unfold sgM; rw [if_neg (by omega)]
    rw [sk_big (by omega), up_id] at h
    refine M_lookw hB (M_here_c hB hT hm h0 ⟨by omega, fun _ => M_here_c hB hT hm h0 h, fun z => by omega⟩)
  | succ k ih =>
    intro m hm h0 hk h
    have ha := hT.2 (m 83 3) h0.1 (by omega)
    have e : sgM T n (m 83 3) = T (m 83 3) := by unfold sgM; rw [if_pos (by omega)]
    refine M_lookw hB (M_here_c hB hT hm h0 ⟨by omega, fun z => M_here_c hB hT hm h0 ?_, fun z => ?_⟩)
    · rw [sk_no (fun q => z (by rw [e]; exact q.2)), up_id] at h
      exact h
    · have e3 : (up m 83 3 (m 83 3 + 1)) 83 3 = m 83 3 + 1 := up_same _ _ _ _
      refine ih _ hm.at3 (by rw [e3]; omega) (by rw [e3]; omega) ?_
      rw [e3, up_up]
      rw [sk_yes ⟨by omega, by rw [← e]; exact z⟩] at h
      exact h
theorem M_look_c (hB : Bsh X.2.2.1) (hT : TOk T n) (hm : TpM T n m) (h0 : 0 ≤ m 83 3 ∧ m 83 3 ≤ 1000) (h : Q (sgM T n (sk T n (m 83 3))) (up m 83 3 (sk T n (m 83 3)))) : M_look X (d + 1) m Q := M_look_k hB hT _ m hm h0 rfl h
theorem M_bad_c (hB : Bsh X.2.2.1) (h4 : m 83 4 = -1) (h : Q0 (up m 83 4 (m 83 3))) : M_bad X d m Q0 := M_badw hB ⟨by omega, fun z => absurd h4 z, fun _ => h⟩
theorem M_dig_c (hB : Bsh X.2.2.1) {c : Int} (hc : -1 ≤ c ∧ c ≤ 255) (hy : 48 ≤ c ∧ c ≤ 57 → Q 1 m) (ho : ¬ (48 ≤ c ∧ c ≤ 57) → Q 0 m) : M_isDigit X d c m Q := M_isDigitw hB ⟨by omega, fun z => ho (by omega), fun z => ⟨fun z2 => ho (by omega), fun z2 => hy (by omega)⟩⟩
theorem M_letter_c (hB : Bsh X.2.2.1) {c : Int} (hc : -1 ≤ c ∧ c ≤ 255) (h : Q (ltO c) m) : M_letterOf X d c m Q := by
  unfold ltO at h
  refine M_letterOfw hB ⟨by omega, fun z1 => ⟨fun z2 => ⟨fun z3 => ⟨fun z4 => ⟨fun z5 => ⟨fun z6 => ?_, fun z6 => ?_⟩, fun z5 => ?_⟩, fun z4 => ?_⟩, fun z3 => ?_⟩, fun z2 => ?_⟩, fun z1 => ?_⟩
  · rw [if_neg z1, if_neg z2, if_neg z3, if_neg z4, if_neg z5, if_neg z6] at h; exact h
  · rw [if_neg z1, if_neg z2, if_neg z3, if_neg z4, if_neg z5, if_pos z6] at h; exact h
  · rw [if_neg z1, if_neg z2, if_neg z3, if_neg z4, if_pos z5] at h; exact h
  · rw [if_neg z1, if_neg z2, if_neg z3, if_pos z4] at h; exact h
  · rw [if_neg z1, if_neg z2, if_pos z3] at h; exact h
  · rw [if_neg z1, if_pos z2] at h; exact h
  · rw [if_pos z1] at h; exact h
theorem M_put_c (hB : Bsh X.2.2.1) (htx : 0 ≤ tx ∧ tx < 5) (h14 : m 83 14 = tx) (hc : 0 ≤ m 87 tx ∧ m 87 tx < 500) {c v : Int} (h : ∀ m', FrR tx m m' → m' 83 = m 83 → stM tx m m' [(c, v)] → Q0 m') : M_put X d c v m Q0 := by
  refine M_putw hB ⟨by omega, by rw [h14]; omega, ?_⟩
  rw [h14]
  refine h _ ⟨(((Fr.rf _ m).up (by simp)).up (by simp)).up (by simp), fun k _ _ _ => by rw [up_off (by decide), up_off (by decide), up_off (by decide)], fun i hi => by rw [up_ne (Or.inr hi), up_off (by decide), up_off (by decide)], fun j hj => ⟨?_, ?_⟩, by rw [up_same]; omega⟩ (by rw [up_off (by decide), up_off (by decide), up_off (by decide)]) ⟨by rw [up_same]; rfl, fun j hj => ?_⟩
  · rw [up_off (by decide), up_off (by decide), up_ne (Or.inr (by omega))]
  · rw [up_off (by decide), up_ne (Or.inr (by omega)), up_off (by decide)]
  · have : j = 0 := by simp at hj; omega
    subst this
    rw [show 520 * tx + m 87 tx + ((0 : Nat) : Int) = 520 * tx + m 87 tx by omega]
    refine ⟨?_, ?_⟩
    · rw [up_off (by decide), up_off (by decide), up_same]; rfl
    · rw [up_off (by decide), up_same]; rfl
/-- a number's digits -/
theorem M_num_4 (hB : Bsh X.2.2.1) (hT : TOk T n) : ∀ (k : Nat) (l1 l2 : Int) (m : Mm), k ≤ 4 → l2 = 4 - k → TpM T n m → m 83 4 = -1 → (0 ≤ m 83 3 ∧ m 83 3 ≤ n) → (¬ (48 ≤ sgn T n (nmL T n k (m 83 3) l1).1 ∧ sgn T n (nmL T n k (m 83 3) l1).1 ≤ 57) → Q (nmL T n k (m 83 3) l1).2 (up m 83 3 (nmL T n k (m 83 3) l1).1)) → ((48 ≤ sgn T n (nmL T n k (m 83 3) l1).1 ∧ sgn T n (nmL T n k (m 83 3) l1).1 ≤ 57) → Q (nmL T n k (m 83 3) l1).2 (up (up m 83 3 (nmL T n k (m 83 3) l1).1) 83 4 (nmL T n k (m 83 3) l1).1)) → M_plainNumber_4 X (d + 1) l1 l2 m Q := by
  have hn := hT.1
  intro k
  induction k with
  | zero =>
    intro l1 l2 m hk hl hm h4 ha hy ho
    have hs := sgM_c hT ha.1
    have e : nmL T n 0 (m 83 3) l1 = (m 83 3, l1) := rfl
    rw [e] at hy ho
    dsimp only at hy ho
    rw [up_id] at hy ho
    refine M_plainNumber_4w hB ⟨by omega, fun _ => M_here_c hB hT hm (by omega) (M_dig_c hB (by omega) (fun hd => ⟨by decide, fun e => absurd e (by decide), fun _ => M_bad_c hB h4 (ho (by omega))⟩) (fun hd => ⟨by decide, fun _ => hy (by omega), fun e => absurd rfl e⟩)), fun z => by omega⟩
  | succ k ih =>
    intro l1 l2 m hk hl hm h4 ha hy ho
    have hs := sgM_c hT ha.1
    refine M_plainNumber_4w hB ⟨by omega, fun z => by omega, fun _ => M_here_c hB hT hm (by omega) (M_dig_c hB (by omega) (fun hd => ⟨by decide, fun e => absurd e (by decide), fun _ => ?_⟩) (fun hd => ⟨by decide, fun _ => ?_, fun e => absurd rfl e⟩))⟩
    · have hlt := sgn_nz (T := T) (n := n) (a := m 83 3) (by omega)
      have e : nmL T n (k + 1) (m 83 3) l1 = nmL T n k (m 83 3 + 1) (10 * l1 + sgn T n (m 83 3) - 48) := by
        conv => lhs; unfold nmL
        rw [if_pos (by omega)]
      rw [e] at hy ho
      have em : sgM T n (m 83 3) = sgn T n (m 83 3) := by omega
      refine M_here_c hB hT hm (by omega) ?_
      rw [em]
      have e3 : (up m 83 3 (m 83 3 + 1)) 83 3 = m 83 3 + 1 := up_same _ _ _ _
      refine ih _ (l2 + 1) _ (by omega) (by omega) hm.at3 (by rw [up_ne (Or.inr (by decide))]; exact h4) (by rw [e3]; omega) ?_ ?_
      · rw [e3, up_up]
        exact hy
      · rw [e3, up_up]
        exact ho
    · have e : nmL T n (k + 1) (m 83 3) l1 = (m 83 3, l1) := by
        conv => lhs; unfold nmL
        rw [if_neg (by omega)]
      rw [e] at hy ho
      dsimp only at hy ho
      rw [up_id] at hy ho
      refine M_here_c hB hT hm (by omega) (M_dig_c hB (by omega) (fun hd => ⟨by decide, fun e => absurd e (by decide), fun _ => M_bad_c hB h4 (ho (by omega))⟩) (fun hd => ⟨by decide, fun _ => hy (by omega), fun e => absurd rfl e⟩))
end MLaw1
