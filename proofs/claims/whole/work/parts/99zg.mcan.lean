/-! ===== the reference reads a canton ===== -/
def kcO (kd : Int) : Int := if kd = 0 then 115 else if kd = 1 then 98 else if kd = 2 then 105 else 109
/-- what is changed of the reference itself -/
def F83 (m m' : Mm) : Prop := ∀ k, k ≠ 3 → k ≠ 4 → m' 83 k = m 83 k
theorem F83.rf (m : Mm) : F83 m m := fun _ _ _ => rfl
theorem F83.tr {m m1 m2 : Mm} (h1 : F83 m m1) (h2 : F83 m1 m2) : F83 m m2 := fun k x y => (h2 k x y).trans (h1 k x y)
theorem F83.u {m m1 : Mm} (h : F83 m m1) {k v : Int} (hk : k = 3 ∨ k = 4) : F83 m (up m1 83 k v) := fun j x y => by rw [up_ne (Or.inr (by omega))]; exact h j x y
theorem F83.o {m m1 : Mm} (h : F83 m m1) {a : Nat} {k v : Int} (ha : a ≠ 83) : F83 m (up m1 a k v) := fun j x y => by rw [up_ne (Or.inl (fun e => ha e.symm))]; exact h j x y
section MCan
variable {X : Cx} {d : Nat} {m : Mm} {Q : Int → Mm → Prop} {Q0 : Mm → Prop} {T : Int → Int} {n kd : Int}
theorem M_usual_c (hB : Bsh X.2.2.1) (hkd : 0 ≤ kd ∧ kd < 4) {j : Int} (hj : 0 ≤ j ∧ j < mnK kd) (h : Q (usK kd j) m) : M_usual X d (kcO kd) j m Q := by
  rcases kd_in hkd with rfl | rfl | rfl | rfl
  · have hj' : j < 5 := hj.2
    refine M_usualw hB ⟨by decide, fun e => absurd e (by decide), fun e => absurd e (by decide), fun _ => ⟨by omega, fun z0 => ⟨fun z1 => ⟨fun z2 => ⟨fun z3 => ?_, fun z3 => ?_⟩, fun z2 => ?_⟩, fun z1 => ?_⟩, fun z0 => ?_⟩, fun e => absurd rfl e.2.2⟩
    · have e : j = 4 := by omega
      subst e; exact h
    · subst z3; exact h
    · subst z2; exact h
    · subst z1; exact h
    · subst z0; exact h
  · have hj' : j < 4 := hj.2
    refine M_usualw hB ⟨by decide, fun _ => ⟨by omega, fun z0 => ⟨fun z2 => ?_, fun z2 => ?_⟩, fun z0 => ?_⟩, fun e => absurd e (by decide), fun e => absurd e (by decide), fun e => absurd rfl e.1⟩
    · have e : j = 1 ∨ j = 3 := by omega
      rcases e with rfl | rfl
      · exact h
      · exact h
    · subst z2; exact h
    · subst z0; exact h
  · have hj' : j < 1 := hj.2
    have e : j = 0 := by omega
    subst e
    exact M_usualw hB ⟨by decide, fun e => absurd e (by decide), fun _ => h, fun e => absurd e (by decide), fun e => absurd rfl e.2.1⟩
  · have hj' : j < 4 := hj.2
    refine M_usualw hB ⟨by decide, fun e => absurd e (by decide), fun e => absurd e (by decide), fun e => absurd e (by decide), fun _ => ⟨by omega, fun z1 => ⟨fun z3 => ?_, fun z3 => ?_⟩, fun z1 => ?_⟩⟩
    · have e : j = 0 ∨ j = 2 := by omega
      rcases e with rfl | rfl
      · exact h
      · exact h
    · subst z3; exact h
    · subst z1; exact h
theorem M_lowest_c (hB : Bsh X.2.2.1) (hkd : 0 ≤ kd ∧ kd < 4) {j : Int} (hj : 0 ≤ j ∧ j < mnK kd) (h : Q (loK kd j) m) : M_lowest X d (kcO kd) j m Q := by
  rcases kd_in hkd with rfl | rfl | rfl | rfl
  · have hj' : j < 5 := hj.2
    refine M_lowestw hB ⟨by decide, fun e => absurd e (by decide), fun e => absurd e (by decide), fun _ => ⟨by omega, fun z0 => ⟨fun z2 => ?_, fun z2 => ⟨fun z3 => ?_, fun z3 => ?_⟩⟩, fun z0 => ?_⟩, fun e => absurd rfl e.2.2⟩
    · subst z2; exact h
    · have e : j = 1 ∨ j = 4 := by omega
      rcases e with rfl | rfl
      · exact h
      · exact h
    · subst z3; exact h
    · subst z0; exact h
  · have hj' : j < 4 := hj.2
    refine M_lowestw hB ⟨by decide, fun _ => ⟨by omega, fun z0 => ?_, fun z0 => ⟨fun z2 => ?_, fun z2 => ?_⟩⟩, fun e => absurd e (by decide), fun e => absurd e (by decide), fun e => absurd rfl e.1⟩
    · subst z0; exact h
    · have e : j = 1 ∨ j = 3 := by omega
      rcases e with rfl | rfl
      · exact h
      · exact h
    · subst z2; exact h
  · have hj' : j < 1 := hj.2
    have e : j = 0 := by omega
    subst e
    exact M_lowestw hB ⟨by decide, fun e => absurd e (by decide), fun _ => h, fun e => absurd e (by decide), fun e => absurd rfl e.2.1⟩
  · have hj' : j < 4 := hj.2
    refine M_lowestw hB ⟨by decide, fun e => absurd e (by decide), fun e => absurd e (by decide), fun e => absurd e (by decide), fun _ => ⟨by omega, fun z0 => ?_, fun z0 => ?_⟩⟩
    · have e : j = 1 ∨ j = 2 ∨ j = 3 := by omega
      rcases e with rfl | rfl | rfl
      · exact h
      · exact h
      · exact h
    · subst z0; exact h
theorem M_highest_c (hB : Bsh X.2.2.1) (hkd : 0 ≤ kd ∧ kd < 4) {j : Int} (hj : 0 ≤ j ∧ j < mnK kd) (h : Q (hiK kd j) m) : M_highest X d (kcO kd) j m Q := by
  rcases kd_in hkd with rfl | rfl | rfl | rfl
  · have hj' : j < 5 := hj.2
    refine M_highestw hB ⟨by decide, fun e => absurd e (by decide), fun e => absurd e (by decide), fun _ => ⟨by omega, fun z1 => ⟨fun z2 => ⟨fun z3 => ?_, fun z3 => ?_⟩, fun z2 => ?_⟩, fun z1 => ?_⟩, fun e => absurd rfl e.2.2⟩
    · have e : j = 0 ∨ j = 4 := by omega
      rcases e with rfl | rfl
      · exact h
      · exact h
    · subst z3; exact h
    · subst z2; exact h
    · subst z1; exact h
  · have hj' : j < 4 := hj.2
    refine M_highestw hB ⟨by decide, fun _ => ⟨by omega, fun z0 => ⟨fun z1 => ⟨fun z2 => ?_, fun z2 => ?_⟩, fun z1 => ?_⟩, fun z0 => ?_⟩, fun e => absurd e (by decide), fun e => absurd e (by decide), fun e => absurd rfl e.1⟩
    · have e : j = 3 := by omega
      subst e; exact h
    · subst z2; exact h
    · subst z1; exact h
    · subst z0; exact h
  · have hj' : j < 1 := hj.2
    have e : j = 0 := by omega
    subst e
    exact M_highestw hB ⟨by decide, fun e => absurd e (by decide), fun _ => h, fun e => absurd e (by decide), fun e => absurd rfl e.2.1⟩
  · have hj' : j < 4 := hj.2
    refine M_highestw hB ⟨by decide, fun e => absurd e (by decide), fun e => absurd e (by decide), fun e => absurd e (by decide), fun _ => ⟨by omega, fun z1 => ?_, fun z1 => ?_⟩⟩
    · have e : j = 0 ∨ j = 2 ∨ j = 3 := by omega
      rcases e with rfl | rfl | rfl
      · exact h
      · exact h
      · exact h
    · subst z1; exact h
theorem M_item_c (hB : Bsh X.2.2.1) (hkd : 0 ≤ kd ∧ kd < 4) {c : Int} (hc : -1 ≤ c ∧ c ≤ 255) (h : Q (itO kd c) m) : M_itemOf X d (kcO kd) c m Q := by
  unfold itO at h
  rcases kd_in hkd with rfl | rfl | rfl | rfl
  · rw [if_pos rfl] at h
    refine M_itemOfw hB ⟨by decide, fun e => absurd e (by decide), fun e => absurd e (by decide), fun _ => ⟨by omega, fun z1 => ⟨fun z2 => ⟨fun z3 => ⟨fun z4 => ⟨fun z5 => ?_, fun z5 => ?_⟩, fun z4 => ?_⟩, fun z3 => ?_⟩, fun z2 => ?_⟩, fun z1 => ?_⟩, fun e => absurd rfl e.2.2⟩
    · rw [if_neg z1, if_neg z2, if_neg z3, if_neg z4, if_neg z5] at h; exact h
    · rw [if_neg z1, if_neg z2, if_neg z3, if_neg z4, if_pos z5] at h; exact h
    · rw [if_neg z1, if_neg z2, if_neg z3, if_pos z4] at h; exact h
    · rw [if_neg z1, if_neg z2, if_pos z3] at h; exact h
    · rw [if_neg z1, if_pos z2] at h; exact h
    · rw [if_pos z1] at h; exact h
  · rw [if_neg (by decide), if_pos rfl] at h
    refine M_itemOfw hB ⟨by decide, fun _ => ⟨by omega, fun z1 => ⟨fun z2 => ⟨fun z3 => ⟨fun z4 => ?_, fun z4 => ?_⟩, fun z3 => ?_⟩, fun z2 => ?_⟩, fun z1 => ?_⟩, fun e => absurd e (by decide), fun e => absurd e (by decide), fun e => absurd rfl e.1⟩
    · rw [if_neg z1, if_neg z2, if_neg z3, if_neg z4] at h; exact h
    · rw [if_neg z1, if_neg z2, if_neg z3, if_pos z4] at h; exact h
    · rw [if_neg z1, if_neg z2, if_pos z3] at h; exact h
    · rw [if_neg z1, if_pos z2] at h; exact h
    · rw [if_pos z1] at h; exact h
  · rw [if_neg (by decide), if_neg (by decide), if_pos rfl] at h
    refine M_itemOfw hB ⟨by decide, fun e => absurd e (by decide), fun _ => ⟨by omega, fun z1 => ?_, fun z1 => ?_⟩, fun e => absurd e (by decide), fun e => absurd rfl e.2.1⟩
    · rw [if_neg z1] at h; exact h
    · rw [if_pos z1] at h; exact h
  · rw [if_neg (by decide), if_neg (by decide), if_neg (by decide)] at h
    refine M_itemOfw hB ⟨by decide, fun e => absurd e (by decide), fun e => absurd e (by decide), fun e => absurd e (by decide), fun _ => ⟨by omega, fun z1 => ⟨fun z2 => ⟨fun z3 => ⟨fun z4 => ?_, fun z4 => ?_⟩, fun z3 => ?_⟩, fun z2 => ?_⟩, fun z1 => ?_⟩⟩
    · rw [if_neg z1, if_neg z2, if_neg z3, if_neg z4] at h; exact h
    · rw [if_neg z1, if_neg z2, if_neg z3, if_pos z4] at h; exact h
    · rw [if_neg z1, if_neg z2, if_pos z3] at h; exact h
    · rw [if_neg z1, if_pos z2] at h; exact h
    · rw [if_pos z1] at h; exact h
/-- a number's end -/
theorem M_num_67 (hB : Bsh X.2.2.1) (hT : TOk T n) {lo hi v : Int} (hlo : -1000 ≤ lo ∧ hi ≤ 1000) (hv : -1000 ≤ v ∧ v ≤ 1000) (hlh : lo ≤ hi) (hm : TpM T n m) (h4 : m 83 4 = -1) (ha : 0 < m 83 3 ∧ m 83 3 ≤ n) (hy : (nC2 T n (m 83 3) lo hi v).1 = true → Q v m) (ho : (nC2 T n (m 83 3) lo hi v).1 = false → ∀ m', Fr [83] m m' → F83 m m' → m' 83 4 = (nC2 T n (m 83 3) lo hi v).2.1 → (0 ≤ m' 83 3 ∧ m' 83 3 ≤ n) → Q v m') : M_number_67 X (d + 2) lo hi v m Q := by
  have hn := hT.1
  have hsM := sgM_c hT (a := m 83 3) (by omega)
  unfold nC2 at hy ho
  refine M_number_67w hB (M_here_c hB hT hm (by omega) (M_dig_c hB (by omega) (fun hd => ⟨by decide, fun e => absurd e (by decide), fun _ => M_bad_c hB h4 ?_⟩) (fun hd => ⟨by decide, fun _ => M_in_c ⟨by omega, by omega⟩ ⟨by omega, by omega⟩ ⟨by omega, by omega⟩ (fun z1 z2 => ⟨by decide, fun _ => ?_, fun e => absurd e (by decide)⟩) (fun z => ⟨by decide, fun e => absurd rfl e, fun _ => M_bad_c hB (by rw [up_ne (Or.inr (by decide))]; exact h4) ?_⟩), fun e => absurd rfl e⟩)))
  · rw [if_pos (by omega)] at ho
    refine ho rfl _ ((Fr.rf _ _).up (by simp)) ((F83.rf m).u (Or.inr rfl)) (up_same _ _ _ _) (by rw [up_ne (Or.inr (by decide))]; omega)
  · rw [if_neg (by omega), if_neg (by omega)] at hy
    exact hy rfl
  · rw [if_neg (by omega), if_pos (by omega)] at ho
    rw [up_same]
    refine ho rfl _ (((Fr.rf _ _).up (by simp)).up (by simp)) (((F83.rf m).u (Or.inl rfl)).u (Or.inr rfl)) (up_same _ _ _ _) (by rw [up_ne (Or.inr (by decide)), up_same]; omega)
theorem M_num_c (hB : Bsh X.2.2.1) (hT : TOk T n) {lo hi : Int} (hlo : -1000 ≤ lo ∧ hi ≤ 1000) (hlh : lo ≤ hi) (hm : TpM T n m) (h4 : m 83 4 = -1) (ha : 0 ≤ m 83 3 ∧ m 83 3 ≤ n) (hy : (nmC T n (m 83 3) lo hi).1 = true → Q (nmC T n (m 83 3) lo hi).2.2 (up m 83 3 (nmC T n (m 83 3) lo hi).2.1)) (ho : (nmC T n (m 83 3) lo hi).1 = false → ∀ v m', Fr [83] m m' → F83 m m' → m' 83 4 = (nmC T n (m 83 3) lo hi).2.1 → (0 ≤ m' 83 3 ∧ m' 83 3 ≤ n) → Q v m') : M_number X (d + 2) lo hi m Q := by
  have hn := hT.1
  have hk := sk_ge T n (m 83 3)
  have hk2 := sk_le (T := T) ha.2
  have hsM := sgM_c hT (a := sk T n (m 83 3)) (by omega)
  unfold nmC at hy ho
  have back : ∀ (a v : Int), (nC2 T n a lo hi v).1 = true → (nC2 T n a lo hi v).2.1 = a ∧ (nC2 T n a lo hi v).2.2 = v := by
    intro a v e
    unfold nC2 at e ⊢
    by_cases q1 : 48 ≤ sgn T n a ∧ sgn T n a ≤ 57
    · rw [if_pos q1] at e; cases e
    · rw [if_neg q1] at e ⊢
      by_cases q2 : v < lo ∨ hi < v
      · rw [if_pos q2] at e; cases e
      · rw [if_neg q2]; exact ⟨rfl, rfl⟩
  refine M_numberw hB (M_look_c hB hT hm (by omega) ?_)
  generalize sk T n (m 83 3) = b at hy ho hk hk2 hsM ⊢
  have e4 : (up m 83 3 b) 83 4 = -1 := by rw [up_ne (Or.inr (by decide))]; exact h4
  have e3 : (up m 83 3 b) 83 3 = b := up_same _ _ _ _
  refine M_dig_c hB (by omega) (fun hd => ⟨by decide, fun _ => M_here_c hB hT hm.at3 (by rw [e3]; omega) ?_, fun e => absurd e (by decide)⟩) (fun hd => ⟨by decide, fun e => absurd rfl e, fun _ => M_bad_c hB e4 ?_⟩)
  · have hz := sgn_nz (T := T) (n := n) (a := b) (by omega)
    have hsM2 := sgM_c hT (a := b + 1) (by omega)
    rw [if_pos (by omega)] at hy ho
    rw [e3]
    have es : sgM T n b = sgn T n b := by omega
    rw [es, up_up]
    have f3 : (up m 83 3 (b + 1)) 83 3 = b + 1 := up_same _ _ _ _
    have f4 : (up m 83 3 (b + 1)) 83 4 = -1 := by rw [up_ne (Or.inr (by decide))]; exact h4
    refine M_here_c hB hT hm.at3 (by rw [f3]; omega) ?_
    rw [f3]
    unfold nC1 at hy ho
    refine M_dig_c hB (by omega) (fun hd2 => ⟨by decide, fun e => absurd e (by decide), fun _ => M_here_c hB hT hm.at3 (by rw [f3]; omega) ?_⟩) (fun hd2 => ⟨by decide, fun _ => ?_, fun e => absurd rfl e⟩)
    · have hz2 := sgn_nz (T := T) (n := n) (a := b + 1) (by omega)
      rw [if_pos (by omega)] at hy ho
      have es2 : sgM T n (b + 1) = sgn T n (b + 1) := by omega
      rw [f3, es2, up_up, show b + 1 + 1 = b + 2 by omega]
      have g3 : (up m 83 3 (b + 2)) 83 3 = b + 2 := up_same _ _ _ _
      refine M_num_67 hB hT hlo (by omega) hlh hm.at3 (by rw [up_ne (Or.inr (by decide))]; exact h4) (by rw [g3]; omega) (fun e => ?_) (fun e m' w1 w2 w3 w4 => ?_)
      · rw [g3] at e
        have := hy e
        rw [(back _ _ e).1, (back _ _ e).2] at this
        exact this
      · rw [g3] at e w3
        exact ho e _ m' (((Fr.rf _ m).up (by simp)).tr w1) (((F83.rf m).u (Or.inl rfl)).tr w2) w3 w4
    · rw [if_neg (by omega)] at hy ho
      refine M_num_67 hB hT hlo (by omega) hlh hm.at3 f4 (by rw [f3]; omega) (fun e => ?_) (fun e m' w1 w2 w3 w4 => ?_)
      · rw [f3] at e
        have := hy e
        rw [(back _ _ e).1, (back _ _ e).2] at this
        exact this
      · rw [f3] at e w3
        exact ho e _ m' (((Fr.rf _ m).up (by simp)).tr w1) (((F83.rf m).u (Or.inl rfl)).tr w2) w3 w4
  · rw [if_neg (by omega)] at ho
    rw [e3]
    refine ho rfl _ _ (((Fr.rf _ _).up (by simp)).up (by simp)) (((F83.rf m).u (Or.inl rfl)).u (Or.inr rfl)) (up_same _ _ _ _) (by rw [up_ne (Or.inr (by decide)), up_same]; omega)
/-- items of the reference -/
theorem M_items_l (hB : Bsh X.2.2.1) (hT : TOk T n) (hkd : 0 ≤ kd ∧ kd < 4) {t : Nat} (ht : tO t) {fr : Int} {base : Int → Int} (hfr : 0 ≤ fr ∧ fr + mnK kd ≤ tLen t) {m0 : Mm} : ∀ (k : Nat) (tl : Int) (m : Mm) (v : Int → Int), TpM T n m → m 83 4 = -1 → (0 ≤ m 83 3 ∧ m 83 3 ≤ n) → Fr [83, t] m0 m → F83 m0 m → m t = pvF base fr (mnK kd) v → n - m 83 3 < k →
    (∀ r m', r = itsP T n kd k tl (m 83 3) v → Fr [83, t] m0 m' → F83 m0 m' → (0 ≤ m' 83 3 ∧ m' 83 3 ≤ n) → (r.1 = true → m' 83 4 = -1 → m' 83 3 = r.2.1 → m' t = pvF base fr (mnK kd) r.2.2 → Q0 m') ∧ (r.1 = false → m' 83 4 = r.2.1 → Q0 m')) →
    M_look X (d + 3) m (fun v116 m116 => M_itemOf X (d + 3) (kcO kd) v116 m116 (fun v119 m119 => M_items_41 X (d + 4) t (kcO kd) fr (mnK kd) tl v119 m119 Q0)) := by
  have hn := hT.1
  have ht83 : t ≠ 83 := by omega
  have ht84 : t ≠ 84 := by omega
  intro k
  induction k with
  | zero => intro tl m v hm h4 ha hf h83 hmt hk h; omega
  | succ k ih =>
    intro tl m v hm h4 ha hf h83 hmt hk h
    have hk1 := sk_ge T n (m 83 3)
    have hk2 := sk_le (T := T) ha.2
    have hsM := sgM_c hT (a := sk T n (m 83 3)) (by omega)
    have hno := itO_no kd
    have h5 := mnK_le kd
    unfold itsP at h
    refine M_look_c hB hT hm (by omega) ?_
    generalize sk T n (m 83 3) = b at h hk1 hk2 hsM ⊢
    have eit : itO kd (sgM T n b) = itO kd (sgn T n b) := by
      rcases hsM with q | q
      · rw [q.1, q.2, hno.1]
        have := itO_r (kd := kd) (c := -1)
        unfold itO
        repeat' split
        all_goals first | rfl | omega
      · rw [q.1]
    refine M_item_c hB hkd (by omega) ?_
    rw [eit]
    have hlt : itO kd (sgn T n b) ≠ -1 → b < n := fun e => sgn_nz (T := T) (fun q => e (by rw [q]; exact hno.1))
    have hir := itO_r (kd := kd) (c := sgn T n b)
    generalize itO kd (sgn T n b) = i at h hlt hir ⊢
    have e4 : (up m 83 3 b) 83 4 = -1 := by rw [up_ne (Or.inr (by decide))]; exact h4
    have e3 : (up m 83 3 b) 83 3 = b := up_same _ _ _ _
    have et : (up m 83 3 b) t = m t := up_off ht83
    have fu : Fr [83, t] m0 (up m 83 3 b) := hf.up (by simp)
    have fu2 : F83 m0 (up m 83 3 b) := h83.u (Or.inl rfl)
    have stop : (i = -1 ∨ bit tl i = 1) → Q0 (up m 83 3 b) := by
      intro hst
      rw [if_pos hst] at h
      exact (h _ (up m 83 3 b) rfl fu fu2 (by rw [e3]; omega)).1 rfl e4 e3 (by rw [et]; exact hmt)
    refine M_items_41w hB ht ⟨by omega, fun zz => absurd e4 zz, fun _ => ⟨by omega, fun z => stop (Or.inl z), fun z => M_has_c (fun hb => ⟨by decide, fun e => absurd rfl e, fun _ => ?_⟩) (fun hb => ⟨by decide, fun _ => stop (Or.inr hb), fun e => absurd e (by decide)⟩)⟩⟩
    have hlt := hlt z
    have hnst : ¬ (i = -1 ∨ bit tl i = 1) := by omega
    rw [if_neg hnst] at h
    rw [adv83]
    have tb := tbK kd.toNat (by omega) i.toNat (by omega) (by rw [show ((kd.toNat : Nat) : Int) = kd by omega, show ((i.toNat : Nat) : Int) = i by omega]; omega)
    rw [show ((kd.toNat : Nat) : Int) = kd by omega, show ((i.toNat : Nat) : Int) = i by omega] at tb
    have f3 : (up m 83 3 (b + 1)) 83 3 = b + 1 := up_same _ _ _ _
    have f4 : (up m 83 3 (b + 1)) 83 4 = -1 := by rw [up_ne (Or.inr (by decide))]; exact h4
    have hr := nmC_r (T := T) (n := n) (a := b + 1) (lo := loK kd i) (hi := hiK kd i) (by omega) (by omega)
    refine M_lowest_c hB hkd (by omega) (M_highest_c hB hkd (by omega) (M_num_c (d := d + 1) hB hT (by omega) (by omega) hm.at3 f4 (by rw [f3]; omega) (fun e => ?_) (fun e v' m' w1 w2 w3 w4 => ?_)))
    · rw [f3] at e ⊢
      generalize nmC T n (b + 1) (loK kd i) (hiK kd i) = r at h hr e ⊢
      rw [if_neg (by rw [e]; decide)] at h
      have hr2 := hr.2.2 e
      rw [up_up]
      have g4 : (up m 83 3 r.2.1) 83 4 = -1 := by rw [up_ne (Or.inr (by decide))]; exact h4
      have g3 : (up (up m 83 3 r.2.1) t (fr + i) r.2.2) 83 3 = r.2.1 := by rw [up_ne (Or.inl (fun q => ht83 q.symm)), up_same]
      refine ⟨by omega, by omega, fun zz => absurd g4 zz, fun _ => ?_⟩
      refine ih _ (up (up m 83 3 r.2.1) t (fr + i) r.2.2) (fun j => if j = i then r.2.2 else v j) (hm.at3.fr (up_ne (Or.inl (fun q => ht83 q.symm))) (up_off (fun q => ht84 q.symm))) (by rw [up_ne (Or.inl (fun q => ht83 q.symm))]; exact g4) (by rw [g3]; omega) ((hf.up (by simp)).up (by simp)) ((h83.u (Or.inl rfl)).o ht83) ?_ (by rw [g3]; omega) (fun r' m' hr' w1 w2 w3 => ?_)
      · funext j
        rw [up_at, up_off ht83, hmt]
        unfold pvF
        by_cases zj : j = fr + i
        · rw [if_pos zj, if_pos (by omega), zj, show fr + i - fr = i by omega]
          exact (if_pos rfl).symm
        · rw [if_neg zj]
          by_cases zr : fr ≤ j ∧ j < fr + mnK kd
          · rw [if_pos zr, if_pos zr]
            exact (if_neg (by omega)).symm
          · rw [if_neg zr, if_neg zr]
      · rw [g3] at hr'
        exact h r' m' hr' w1 w2 w3
    · rw [f3] at e w3
      generalize nmC T n (b + 1) (loK kd i) (hiK kd i) = r at h hr e w3
      rw [if_pos e] at h
      have g4 : (up m' t (fr + i) v') 83 4 = r.2.1 := by rw [up_ne (Or.inl (fun q => ht83 q.symm))]; exact w3
      refine ⟨by omega, by omega, fun _ => M_items_41w hB ht ⟨by omega, fun _ => ?_, fun zz => by omega⟩, fun zz => by omega⟩
      refine (h _ (up m' t (fr + i) v') rfl (((hf.up (by simp)).tr (w1.wd (by simp))).up (by simp)) (((h83.u (Or.inl rfl)).tr w2).o ht83) (by rw [up_ne (Or.inl (fun q => ht83 q.symm))]; exact w4)).2 rfl g4
theorem M_items_c (hB : Bsh X.2.2.1) (hT : TOk T n) (hkd : 0 ≤ kd ∧ kd < 4) {t : Nat} (ht : tO t) {fr : Int} (hfr : 0 ≤ fr ∧ fr + mnK kd ≤ tLen t) (hm : TpM T n m) (h4 : m 83 4 = -1) (ha : 0 ≤ m 83 3 ∧ m 83 3 ≤ n)
    (h : ∀ r m', r = itsP T n kd 241 0 (m 83 3) (usK kd) → Fr [83, t] m m' → F83 m m' → (0 ≤ m' 83 3 ∧ m' 83 3 ≤ n) → (r.1 = true → m' 83 4 = -1 → m' 83 3 = r.2.1 → m' t = pvF (m t) fr (mnK kd) r.2.2 → Q0 m') ∧ (r.1 = false → m' 83 4 = r.2.1 → Q0 m')) :
    M_items X (d + 4) (kcO kd) t fr (mnK kd) m Q0 := by
  have hn := hT.1
  have ht83 : t ≠ 83 := by omega
  have ht84 : t ≠ 84 := by omega
  have h5 := mnK_le kd
  have h51 := (ft_r hkd).2.2.2
  have loop : ∀ (f : Nat) (l : Int) (m1 : Mm), 0 ≤ l → mnK kd - l = f → Fr [t] m m1 → (∀ j, m1 t j = if fr ≤ j ∧ j < fr + l then usK kd (j - fr) else m t j) → M_items_3 X (d + 4) t (kcO kd) fr (mnK kd) l m1 Q0 := by
    intro f
    induction f with
    | zero =>
      intro l m1 hl hf hfr1 hmt
      have e83 : m1 83 = m 83 := hfr1 83 (by simp; omega)
      have el : l = mnK kd := by omega
      refine M_items_3w hB ht ⟨by omega, by omega, fun _ => ?_, fun z => by omega⟩
      refine M_items_l (base := m t) hB hT hkd ht hfr (m0 := m) 241 0 m1 (usK kd) (hm.fr (by rw [e83]) (hfr1 84 (by simp; omega))) (by rw [e83]; exact h4) (by rw [e83]; exact ha) (hfr1.wd (by simp)) (fun k _ _ => by rw [e83]) ?_ (by rw [e83]; omega) (fun r m' hr w1 w2 w3 => ?_)
      · funext j
        rw [hmt j, el]
        rfl
      · rw [e83] at hr
        exact h r m' hr w1 w2 w3
    | succ f ih =>
      intro l m1 hl hf hfr1 hmt
      refine M_items_3w hB ht ⟨by omega, by omega, fun z => by omega, fun _ => M_usual_c hB hkd (by omega) ⟨by omega, ih (l + 1) _ (by omega) (by omega) (hfr1.up (by simp)) (fun j => ?_)⟩⟩
      rw [up_at, hmt j]
      by_cases z : j = fr + l
      · rw [if_pos z, if_pos (by omega), z, show fr + l - fr = l by omega]
      · rw [if_neg z]
        by_cases z2 : fr ≤ j ∧ j < fr + l
        · rw [if_pos z2, if_pos (by omega)]
        · rw [if_neg z2, if_neg (by omega)]
  exact M_itemsw hB ht (loop (mnK kd).toNat 0 m (by decide) (by omega) (Fr.rf _ _) (fun j => by rw [if_neg (by omega)]))
end MCan
