/-! ===== the class reads a law ===== -/
/-- the class's tape -/
def TpC (T : Int → Int) (n : Int) (m : Mm) : Prop := m 1 1 = n ∧ ∀ j, 0 ≤ j → j < n → m 2 j = T j
theorem TpC.fr {T : Int → Int} {n : Int} {m m' : Mm} (h : TpC T n m) (h1 : m' 1 = m 1) (h2 : m' 2 = m 2) : TpC T n m' := by
  unfold TpC at h ⊢
  rw [h1, h2]
  exact h
theorem TpC.f67 {T : Int → Int} {n : Int} {m m' : Mm} (h : TpC T n m) (hf : Fr [6, 7] m m') : TpC T n m' := h.fr (hf 1 (by decide)) (hf 2 (by decide))
def b2i (b : Bool) : Int := if b then 1 else 0
theorem b2i_t : b2i true = 1 := rfl
theorem b2i_f : b2i false = 0 := rfl
theorem b2i_01 (b : Bool) : b2i b = 0 ∨ b2i b = 1 := by cases b; exact Or.inl rfl; exact Or.inr rfl
/-- steps written since m -/
def stC (m m' : Mm) (cs : List Int) : Prop := m' 6 2 = m 6 2 + cs.length ∧ (∀ j, j < m 6 2 → m' 7 j = m 7 j) ∧ ∀ j : Nat, j < cs.length → m' 7 (m 6 2 + j) = cs.getD j 0
theorem stC.rf {m m' : Mm} (h2 : m' 6 2 = m 6 2) (h7 : m' 7 = m 7) : stC m m' [] := ⟨by rw [h2]; show _ = _ + ((0 : Nat) : Int); omega, fun j _ => by rw [h7], fun j hj => absurd hj (Nat.not_lt_zero _)⟩
theorem stC.tr {m m1 m2 : Mm} {a b : List Int} (h1 : stC m m1 a) (h2 : stC m1 m2 b) : stC m m2 (a ++ b) := by
  obtain ⟨a1, a2, a3⟩ := h1
  obtain ⟨b1, b2, b3⟩ := h2
  refine ⟨by rw [b1, a1, List.length_append]; omega, fun j hj => by rw [b2 j (by omega), a2 j hj], fun j hj => ?_⟩
  rw [List.length_append] at hj
  by_cases z : j < a.length
  · rw [b2 _ (by omega), a3 j z, List.getD_eq_getElem?_getD, List.getD_eq_getElem?_getD, List.getElem?_append_left z]
  · have := b3 (j - a.length) (by omega)
    rw [List.getD_eq_getElem?_getD, List.getElem?_append_right (by omega), ← List.getD_eq_getElem?_getD, ← this, a1]
    congr 1
    omega
/-- what a reader leaves -/
def cRes (m m' : Mm) (r : Rr) : Prop := Fr [6, 7] m m' ∧ m' 6 3 = r.2.1 ∧ (0 ≤ m' 6 2 ∧ m' 6 2 ≤ 241) ∧ (r.1 = true → stC m m' (enc r.2.2))
/-- a reader of the class -/
def CJ (T : Int → Int) (n : Int) (J : Mm → (Int → Mm → Prop) → Prop) (F : Int → Rr) : Prop := ∀ (m : Mm) (Q : Int → Mm → Prop), TpC T n m → (0 ≤ m 6 3 ∧ m 6 3 ≤ n) → (0 ≤ m 6 2 ∧ m 6 2 ≤ m 6 3) → (∀ m', cRes m m' (F (m 6 3)) → Q (b2i (F (m 6 3)).1) m') → J m Q
theorem enc_app (a b : Cd) : enc (a ++ b) = enc a ++ enc b := by unfold enc; rw [List.map_append]
theorem enc_len (a : Cd) : (enc a).length = a.length := by unfold enc; rw [List.length_map]
section CLaw1
variable {X : Cx} {d : Nat} {m : Mm} {Q : Int → Mm → Prop} {Q0 : Mm → Prop} {T : Int → Int} {n : Int}
theorem B_blanks_c (hB : Bsh X.2.2.1) (hT : TOk T n) (hm : TpC T n m) {x : Int} : ∀ (k : Nat) (a : Int), 0 ≤ a → a ≤ n → (n - a).toNat = k → Q (sk T n a) m → B_behindBlanks_4 X d x a a m Q := by
  have hn := hT.1
  intro k
  induction k with
  | zero =>
    intro a h0 h1 hk h
    rw [sk_big (by omega)] at h
    exact B_behindBlanks_4w hB ⟨by omega, by rw [hm.1]; omega, fun _ => h, fun z => by rw [hm.1] at z; omega⟩
  | succ k ih =>
    intro a h0 h1 hk h
    have ha := hT.2 a h0 (by omega)
    have e := hm.2 a h0 (by omega)
    refine B_behindBlanks_4w hB ⟨by omega, by rw [hm.1]; omega, fun z => by rw [hm.1] at z; omega, fun z => ⟨by omega, by omega, fun z2 => ?_, fun z2 => ?_⟩⟩
    · rw [sk_no (fun q => z2 (by rw [e]; exact q.2))] at h
      exact h
    · rw [sk_yes ⟨by omega, by rw [← e]; exact z2⟩] at h
      exact ih (a + 1) (by omega) (by omega) (by omega) h
theorem B_blanks (hB : Bsh X.2.2.1) (hT : TOk T n) (hm : TpC T n m) {a : Int} (h0 : 0 ≤ a) (h1 : a ≤ n) (h : Q (sk T n a) m) : B_behindBlanks X d a m Q := B_behindBlanksw hB (B_blanks_c hB hT hm _ a h0 h1 rfl h)
theorem B_sign_c (hB : Bsh X.2.2.1) (hT : TOk T n) (hm : TpC T n m) {a : Int} (h0 : 0 ≤ a) (h1 : a ≤ n) (h : Q (sgn T n a) m) : B_signAt X d a m Q := by
  have hn := hT.1
  unfold sgn at h
  refine B_signAtw hB ⟨by omega, fun z => by omega, fun _ => ⟨by rw [hm.1]; omega, fun z => ?_, fun z => ⟨by rw [hm.1] at z; omega, ?_⟩⟩⟩
  · rw [hm.1] at z
    rw [if_neg (by omega)] at h
    exact h
  · rw [hm.1] at z
    rw [if_pos z] at h
    rw [hm.2 a h0 z]
    exact h
theorem B_digit_c (hB : Bsh X.2.2.1) (hT : TOk T n) (hm : TpC T n m) {a : Int} (h0 : 0 ≤ a) (h1 : a ≤ n) (hy : 48 ≤ sgn T n a ∧ sgn T n a ≤ 57 → Q 1 m) (ho : ¬ (48 ≤ sgn T n a ∧ sgn T n a ≤ 57) → Q 0 m) : B_isDigitAt X d a m Q := by
  have hn := hT.1
  refine B_isDigitAtw hB ⟨by omega, fun z => by omega, fun _ => ⟨by rw [hm.1]; omega, fun z => ho ?_, fun z => ?_⟩⟩
  · rw [hm.1] at z
    unfold sgn
    rw [if_neg (by omega)]
    omega
  · rw [hm.1] at z
    have ha := hT.2 a h0 z
    have e := hm.2 a h0 z
    have es : sgn T n a = T a := by unfold sgn; rw [if_pos z]
    rw [e]
    rw [es] at hy ho
    exact ⟨by omega, by omega, fun z2 => ho (by omega), fun z2 => ⟨fun z3 => ho (by omega), fun z3 => hy (by omega)⟩⟩
theorem P_coming_c (hB : Bsh X.2.2.1) (hT : TOk T n) (hm : TpC T n m) (ha : 0 ≤ m 6 3 ∧ m 6 3 ≤ n) (h : Q (sgn T n (sk T n (m 6 3))) (up m 6 3 (sk T n (m 6 3)))) : P_comingSign X (d + 1) m Q := by
  have hk := sk_ge T n (m 6 3)
  have hk2 := sk_le (T := T) ha.2
  refine P_comingSignw hB (B_blanks hB hT hm ha.1 ha.2 (B_sign_c hB hT (hm.fr (up_off (by decide)) (up_off (by decide))) (by omega) hk2 h))
theorem P_passes_c (hB : Bsh X.2.2.1) (hT : TOk T n) (hm : TpC T n m) (ha : 0 ≤ m 6 3 ∧ m 6 3 ≤ n) {c : Int} (hc : 1 ≤ c ∧ c ≤ 255) (hy : sgn T n (sk T n (m 6 3)) = c → Q 1 (up m 6 3 (sk T n (m 6 3) + 1))) (ho : sgn T n (sk T n (m 6 3)) ≠ c → Q 0 (up m 6 3 (sk T n (m 6 3)))) : P_passes X (d + 2) c m Q := by
  have hk := sk_ge T n (m 6 3)
  have hr := sgn_r hT (a := sk T n (m 6 3)) (by omega)
  refine P_passesw hB (P_coming_c hB hT hm ha ⟨by omega, by omega, fun z => ?_, ho⟩)
  have e : up (up m 6 3 (sk T n (m 6 3))) 6 3 (up m 6 3 (sk T n (m 6 3)) 6 3 + 1) = up m 6 3 (sk T n (m 6 3) + 1) := by
    funext a j
    unfold up
    by_cases z : a = 6 ∧ j = 3
    · rw [if_pos z, if_pos z, if_pos ⟨rfl, rfl⟩]
    · rw [if_neg z, if_neg z, if_neg z]
  rw [e]
  exact hy z
theorem P_write_c (hB : Bsh X.2.2.1) {c v : Int} (hc : 0 ≤ c ∧ c ≤ 13) (hv : 0 ≤ v ∧ v < 16384) (hs : 0 ≤ m 6 2 ∧ m 6 2 ≤ 241) (h : ∀ m', Fr [6, 7] m m' → m' 6 3 = m 6 3 → (0 ≤ m' 6 2 ∧ m' 6 2 ≤ 241) → (m 6 2 < 241 → stC m m' [16384 * c + v]) → Q0 m') : P_write X d c v m Q0 := by
  refine P_writew hB ⟨by omega, fun z => h m (Fr.rf _ _) rfl hs (fun e => by omega), fun z => ⟨by omega, ?_⟩⟩
  have e : iO (iSl c 14) v = 16384 * c + v := by
    have e1 := iSl_e (x := c) 14 (by omega) (by decide)
    have e2 := iO_low (a := c) (b := v) 14 hc.1 (by omega) (by omega)
    rw [show ((14 : Nat) : Int) = 14 by rfl] at e1
    rw [e1, e2]
    omega
  rw [e]
  refine h _ (((Fr.rf _ _).up (by simp)).up (by simp)) (by rw [up_ne (Or.inr (by decide)), up_ne (Or.inl (by decide))]) (by rw [up_same]; omega) (fun _ => ⟨by rw [up_same]; rfl, fun j hj => ?_, fun j hj => ?_⟩)
  · rw [up_ne (Or.inl (by decide)), up_ne (Or.inr (by omega))]
  · have : j = 0 := by simp at hj; omega
    subst this
    rw [up_ne (Or.inl (by decide)), show m 6 2 + ((0 : Nat) : Int) = m 6 2 by omega, up_same]
    rfl
end CLaw1
