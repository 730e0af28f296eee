/-! ===== the reference reads a law: the whole ===== -/
def cdN (L : Lw) : Nat := (L.map fun c => c.1.length + c.2.length).sum
theorem cdN_app (L : Lw) (c : Cd × Cd) : cdN (L ++ [c]) = cdN L + (c.1.length + c.2.length) := by
  unfold cdN
  rw [List.map_append, List.sum_append]
  simp
/-- one clause, at its place -/
def MlC1 (m : Mm) (i : Int) (c : Cd × Cd) (k o : Int) : Prop := m 89 (140 * i + k) = o ∧ m 90 (140 * i + k) = o + c.1.length ∧ m 91 (140 * i + k) = o + c.1.length + c.2.length ∧ (∀ j : Nat, j < (c.1 ++ c.2).length → m 85 (520 * i + o + j) = ((c.1 ++ c.2).getD j (0, 0)).1 ∧ m 86 (520 * i + o + j) = ((c.1 ++ c.2).getD j (0, 0)).2)
theorem MlCl_app {m : Mm} {i : Int} (c : Cd × Cd) : ∀ (L : Lw) (k o : Int), MlCl m i L k o → MlC1 m i c (k + L.length) (o + cdN L) → MlCl m i (L ++ [c]) k o
  | [], k, o, _, h => by
    have e1 : k + ((([] : Lw).length : Nat) : Int) = k := by show k + ((0 : Nat) : Int) = k; omega
    have e2 : o + ((cdN [] : Nat) : Int) = o := by show o + ((0 : Nat) : Int) = o; omega
    rw [e1, e2] at h
    exact ⟨h.1, h.2.1, h.2.2.1, h.2.2.2, trivial⟩
  | (t, s) :: L, k, o, h1, h => by
    obtain ⟨a1, a2, a3, a4, a5⟩ := h1
    refine ⟨a1, a2, a3, a4, MlCl_app c L (k + 1) (o + t.length + s.length) a5 ?_⟩
    have e1 : k + (((t, s) :: L).length : Int) = k + 1 + (L.length : Int) := by rw [List.length_cons]; omega
    have e2 : o + ((cdN ((t, s) :: L) : Nat) : Int) = o + t.length + s.length + cdN L := by
      show o + (((t.length + s.length) + cdN L : Nat) : Int) = _
      omega
    rw [e1, e2] at h
    exact h
theorem MlCl_cg {m m' : Mm} {i : Int} : ∀ (L : Lw) (k o : Int), MlCl m i L k o → (∀ j, 140 * i + k ≤ j → j < 140 * i + k + L.length → m' 89 j = m 89 j ∧ m' 90 j = m 90 j ∧ m' 91 j = m 91 j) → (∀ j, 520 * i + o ≤ j → j < 520 * i + o + cdN L → m' 85 j = m 85 j ∧ m' 86 j = m 86 j) → MlCl m' i L k o
  | [], _, _, _, _, _ => trivial
  | (t, s) :: L, k, o, h, h1, h2 => by
    obtain ⟨a1, a2, a3, a4, a5⟩ := h
    have e1 : (((t, s) :: L).length : Int) = 1 + (L.length : Int) := by rw [List.length_cons]; omega
    have e2 : ((cdN ((t, s) :: L) : Nat) : Int) = t.length + s.length + cdN L := by
      show (((t.length + s.length) + cdN L : Nat) : Int) = _
      omega
    rw [e1] at h1
    rw [e2] at h2
    have hk := h1 (140 * i + k) (by omega) (by omega)
    refine ⟨hk.1.trans a1, hk.2.1.trans a2, hk.2.2.trans a3, fun j hj => ?_, MlCl_cg L (k + 1) (o + t.length + s.length) a5 (fun j x y => h1 j (by omega) (by omega)) (fun j x y => h2 j (by omega) (by omega))⟩
    have hl : (t ++ s).length = t.length + s.length := List.length_append
    have := h2 (520 * i + o + j) (by omega) (by omega)
    rw [this.1, this.2]
    exact a4 j hj
/-- what the reference holds of the text that it reads -/
def MlR (tx : Int) (m : Mm) (L : Lw) : Prop := m 88 tx = L.length ∧ m 87 tx = cdN L ∧ MlCl m tx L 0 0
/-- what reading a law changes -/
def FrT (tx : Int) (m m' : Mm) : Prop := Fr [83, 85, 86, 87, 88, 89, 90, 91] m m' ∧ (∀ k, k ≠ 3 → k ≠ 4 → k ≠ 5 → k ≠ 14 → m' 83 k = m 83 k) ∧ (∀ i, i ≠ tx → m' 87 i = m 87 i ∧ m' 88 i = m 88 i) ∧ (∀ j, (j < 520 * tx ∨ 520 * tx + 520 ≤ j) → m' 85 j = m 85 j ∧ m' 86 j = m 86 j) ∧ (∀ j, (j < 140 * tx ∨ 140 * tx + 140 ≤ j) → m' 89 j = m 89 j ∧ m' 90 j = m 90 j ∧ m' 91 j = m 91 j)
theorem FrT.tr {tx : Int} {m m1 m2 : Mm} (h1 : FrT tx m m1) (h2 : FrT tx m1 m2) : FrT tx m m2 := by
  obtain ⟨a1, a2, a3, a4, a5⟩ := h1
  obtain ⟨b1, b2, b3, b4, b5⟩ := h2
  exact ⟨a1.tr b1, fun k x y z w => (b2 k x y z w).trans (a2 k x y z w), fun i hi => ⟨(b3 i hi).1.trans (a3 i hi).1, (b3 i hi).2.trans (a3 i hi).2⟩, fun j hj => ⟨(b4 j hj).1.trans (a4 j hj).1, (b4 j hj).2.trans (a4 j hj).2⟩, fun j hj => ⟨(b5 j hj).1.trans (a5 j hj).1, (b5 j hj).2.1.trans (a5 j hj).2.1, (b5 j hj).2.2.trans (a5 j hj).2.2⟩⟩
theorem FrC.t {tx l1 c0 : Int} {m m' : Mm} (h : FrC tx l1 c0 m m') (hc : 0 ≤ c0) (hl : 140 * tx ≤ l1 ∧ l1 < 140 * tx + 140) : FrT tx m m' := by
  obtain ⟨a1, a2, a3, a4, a5⟩ := h
  exact ⟨a1, fun k x y z _ => a2 k x y z, a3, fun j hj => a4 j (by omega), fun j hj => a5 j (by omega)⟩
theorem FrT.u3 {tx : Int} {m m1 : Mm} (h : FrT tx m m1) {k v : Int} (hk : k = 3 ∨ k = 4 ∨ k = 5 ∨ k = 14) : FrT tx m (up m1 83 k v) := by
  obtain ⟨a1, a2, a3, a4, a5⟩ := h
  exact ⟨a1.up (by simp), fun j x y z w => by rw [up_ne (Or.inr (by omega))]; exact a2 j x y z w, fun i hi => by rw [up_off (by decide), up_off (by decide)]; exact a3 i hi, fun j hj => by rw [up_off (by decide), up_off (by decide)]; exact a4 j hj, fun j hj => by rw [up_off (by decide), up_off (by decide), up_off (by decide)]; exact a5 j hj⟩
theorem FrT.rf (tx : Int) (m : Mm) : FrT tx m m := ⟨Fr.rf _ _, fun _ _ _ _ _ => rfl, fun _ _ => ⟨rfl, rfl⟩, fun _ _ => ⟨rfl, rfl⟩, fun _ _ => ⟨rfl, rfl, rfl⟩⟩
theorem TpM.t {T : Int → Int} {n tx : Int} {m m' : Mm} (h : TpM T n m) (hf : FrT tx m m') : TpM T n m' := h.fr (hf.2.1 2 (by decide) (by decide) (by decide) (by decide)) (hf.1 84 (by decide))
theorem cdN_le (L : Lw) : cdN L + 2 * L.length = (L.map fun c => c.1.length + c.2.length + 2).sum := by
  induction L with
  | nil => rfl
  | cons c L ih =>
    unfold cdN at ih ⊢
    simp only [List.map_cons, List.sum_cons, List.length_cons]
    omega
section MLaw5
variable {X : Cx} {d : Nat} {m : Mm} {Q : Int → Mm → Prop} {T : Int → Int} {n tx : Int}
theorem M_clauses_c (hB : Bsh X.2.2.1) (hT : TOk T n) (htx : 0 ≤ tx ∧ tx < 5) {m0 : Mm} : ∀ (k : Nat) (m : Mm) (L : Lw), TpM T n m → FrT tx m0 m → m 83 14 = tx → m 83 4 = -1 → m 83 5 = 0 → (0 ≤ m 83 3 ∧ m 83 3 ≤ n) → MlR tx m L → LwR L (m 83 3) → n - m 83 3 < k → (∀ m', FrT tx m0 m' → ((lwP T n k (m 83 3) L).1 = true → MlR tx m' (lwP T n k (m 83 3) L).2.2) → Q (if (lwP T n k (m 83 3) L).1 = true then -1 else (lwP T n k (m 83 3) L).2.1) m') → M_clause X (d + 40) m (fun m6 => M_readLaw_9 X (d + 41) tx m6 Q) := by
  have hn := hT.1
  intro k
  induction k with
  | zero => intro m L hm hf h14 h4 h5 ha hR hL hk h; omega
  | succ k ih =>
    intro m L hm hf h14 h4 h5 ha hR hL hk h
    obtain ⟨R1, R2, R3⟩ := hR
    have hcd := cdN_le L
    have hL2 := hL.2.2
    have hL1 := hL.2.1
    obtain ⟨c1, c2, c3⟩ := pCls_r (T := T) ha.1 ha.2
    have hk1 := sk_ge T n (pCls T n (m 83 3)).2.1
    have hk2 := sk_le (T := T) c2
    have hsM := sgM_c hT (a := sk T n (pCls T n (m 83 3)).2.1) (by omega)
    unfold lwP at h
    refine M_clause_c hB hT htx hm h14 h4 h5 ha (by omega) (by omega) (fun m1 g => ?_)
    generalize pCls T n (m 83 3) = c at h c1 c2 c3 hk1 hk2 hsM g
    obtain ⟨g1, g2, g3, g4⟩ := g
    have ft := hf.tr (g1.t (by omega) (by omega))
    have hm1 : TpM T n m1 := hm.c g1
    cases hb : c.1 with
    | false =>
      rw [if_pos hb] at h
      have g4 := g4 hb
      have h := h m1 ft (fun e => by cases e)
      refine M_readLaw_9w hB ⟨by omega, fun _ => M_atEndw hB ⟨by omega, fun _ => ?_, fun zz => by omega⟩, fun zz => by omega⟩
      rw [g4]
      exact h
    | true =>
      rw [if_neg (by rw [hb]; decide)] at h
      obtain ⟨x1, x2, x3, x4, x5, x6, x7, x8⟩ := g3 hb
      have c3 := c3 hb
      have x87 := x4.1
      rw [List.length_append] at x87
      have hR1 : MlR tx m1 (L ++ [c.2.2]) := by
        refine ⟨by rw [x5, R1, List.length_append, List.length_singleton]; omega, by rw [x87, R2, cdN_app]; omega, MlCl_app _ L 0 0 (MlCl_cg L 0 0 R3 (fun j hj1 hj2 => g1.2.2.2.2 j (by omega)) (fun j hj1 hj2 => g1.2.2.2.1 j (by omega))) ?_⟩
        rw [Int.zero_add, Int.zero_add, ← R1, ← R2]
        exact ⟨x6, x7, x8, x4.2⟩
      have hL' : LwR (L ++ [c.2.2]) c.2.1 := hL.add c3.2.2 c3.1 c3.2.1
      refine M_readLaw_9w hB ⟨by omega, fun zz => absurd x1 zz, fun _ => M_look_c hB hT hm1 (by omega) ?_⟩
      rw [x2]
      have fu : FrT tx m0 (up m1 83 3 (sk T n c.2.1)) := ft.u3 (Or.inl rfl)
      have u4 : (up m1 83 3 (sk T n c.2.1)) 83 4 = -1 := by rw [up_ne (Or.inr (by decide))]; exact x1
      have u3 : (up m1 83 3 (sk T n c.2.1)) 83 3 = sk T n c.2.1 := up_same _ _ _ _
      have keep : ∀ v, MlR tx (up m1 83 3 v) (L ++ [c.2.2]) := fun v => by
        obtain ⟨y1, y2, y3⟩ := hR1
        exact ⟨by rw [up_off (by decide)]; exact y1, by rw [up_off (by decide)]; exact y2, MlCl_cg _ 0 0 y3 (fun j _ _ => by rw [up_off (by decide), up_off (by decide), up_off (by decide)]; exact ⟨rfl, rfl, rfl⟩) (fun j _ _ => by rw [up_off (by decide), up_off (by decide)]; exact ⟨rfl, rfl⟩)⟩
      refine ⟨by omega, fun z => M_atEndw hB ⟨by omega, fun zz => absurd u4 zz, fun _ => M_look_c hB hT hm1.at3 (by rw [u3]; omega) ?_⟩, fun z => ?_⟩
      · rw [u3, sk_sk, up_up]
        refine ⟨by omega, fun z2 => ?_, fun z2 => M_bad_c hB u4 ?_⟩
        · rw [if_pos (by omega)] at h
          rw [u4]
          exact h _ fu (fun _ => keep _)
        · rw [if_neg (by omega), if_neg (by omega)] at h
          rw [u3, up_same]
          exact h _ (fu.u3 (Or.inr (Or.inl rfl))) (fun e => by cases e)
      · have hz := sgn_nz (T := T) (n := n) (a := sk T n c.2.1) (by omega)
        rw [if_neg (by omega), if_pos (by omega)] at h
        rw [adv83]
        have v3 : (up m1 83 3 (sk T n c.2.1 + 1)) 83 3 = sk T n c.2.1 + 1 := up_same _ _ _ _
        have v14 : m1 83 14 = tx := by rw [g1.2.1 14 (by decide) (by decide) (by decide)]; exact h14
        refine ih _ (L ++ [c.2.2]) hm1.at3 (ft.u3 (Or.inl rfl)) (by rw [up_ne (Or.inr (by decide))]; exact v14) (by rw [up_ne (Or.inr (by decide))]; exact x1) (by rw [up_ne (Or.inr (by decide)), x3]; exact h5) (by rw [v3]; omega) (keep _) (by rw [v3]; exact hL'.le (by omega)) (by rw [v3]; omega) (fun m' w1 w2 => ?_)
        rw [v3] at w2 ⊢
        exact h m' w1 w2
theorem M_readLaw_c (hB : Bsh X.2.2.1) (hT : TOk T n) (htx : 0 ≤ tx ∧ tx < 5) (hm : TpM T n m) (h : ∀ m', FrT tx m m' → ((lwP T n 241 0 []).1 = true → MlR tx m' (lwP T n 241 0 []).2.2) → Q (if (lwP T n 241 0 []).1 = true then -1 else (lwP T n 241 0 []).2.1) m') : M_readLaw X (d + 41) tx m Q := by
  have hn := hT.1
  refine M_readLaww hB (M_openw hB ⟨htx, ?_⟩)
  obtain ⟨m1, hm1⟩ : ∃ m1, m1 = up (up (up (up (up (up m 83 14 tx) 83 3 0) 83 4 (-1)) 83 5 0) 87 tx 0) 88 tx 0 := ⟨_, rfl⟩
  rw [← hm1]
  have e3 : m1 83 3 = 0 := by rw [hm1, up_off (by decide), up_off (by decide), up_ne (Or.inr (by decide)), up_ne (Or.inr (by decide)), up_same]
  have e4 : m1 83 4 = -1 := by rw [hm1, up_off (by decide), up_off (by decide), up_ne (Or.inr (by decide)), up_same]
  have e5 : m1 83 5 = 0 := by rw [hm1, up_off (by decide), up_off (by decide), up_same]
  have e14 : m1 83 14 = tx := by rw [hm1, up_off (by decide), up_off (by decide), up_ne (Or.inr (by decide)), up_ne (Or.inr (by decide)), up_ne (Or.inr (by decide)), up_same]
  have e87 : m1 87 tx = 0 := by rw [hm1, up_off (by decide), up_same]
  have e88 : m1 88 tx = 0 := by rw [hm1, up_same]
  have f : FrT tx m m1 := by
    have f4 := ((((FrT.rf tx m).u3 (k := 14) (v := tx) (by omega)).u3 (k := 3) (v := 0) (by omega)).u3 (k := 4) (v := -1) (by omega)).u3 (k := 5) (v := 0) (by omega)
    obtain ⟨a1, a2, a3, a4, a5⟩ := f4
    rw [hm1]
    refine ⟨(a1.up (by simp)).up (by simp), fun k x y z w => by rw [up_off (by decide), up_off (by decide)]; exact a2 k x y z w, fun i hi => by rw [up_off (by decide), up_ne (Or.inr hi), up_ne (Or.inr hi), up_off (by decide)]; exact a3 i hi, fun j hj => ?_, fun j hj => ?_⟩
    · rw [up_off (by decide), up_off (by decide), up_off (by decide), up_off (by decide)]; exact a4 j hj
    · rw [up_off (by decide), up_off (by decide), up_off (by decide), up_off (by decide), up_off (by decide), up_off (by decide)]; exact a5 j hj
  refine M_clauses_c hB hT htx 241 m1 [] (hm.t f) f e14 e4 e5 (by rw [e3]; omega) ⟨by rw [e88]; rfl, by rw [e87]; rfl, trivial⟩ ⟨fun c hc => by simp at hc, by rw [e3]; exact Int.le_refl _, by rw [e3]; exact Int.le_refl _⟩ (by rw [e3]; omega) (fun m' w1 w2 => ?_)
  rw [e3] at w2 ⊢
  exact h m' w1 w2
end MLaw5
