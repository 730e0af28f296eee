/-! ===== the class reads a law: clauses, the whole ===== -/
/-- a reading with what was read ahead of it -/
def preR (p : Cd) (r : Rr) : Rr := (r.1, r.2.1, p ++ r.2.2)
theorem lpP_pre {T : Int → Int} {n : Int} {it : Int → Rr} {s1 s2 o1 o2 : Int} {p : Cd} : ∀ (k : Nat) (r : Rr), lpP T n it s1 s2 o1 o2 k (preR p r) = preR p (lpP T n it s1 s2 o1 o2 k r)
  | 0, r => rfl
  | k + 1, r => by
    conv => lhs; unfold lpP
    conv => rhs; unfold lpP
    show (if r.1 = false then preR p r else if sgn T n (sk T n r.2.1) = s1 ∨ sgn T n (sk T n r.2.1) = s2 then lpP T n it s1 s2 o1 o2 k ((it (sk T n r.2.1 + 1)).1, (it (sk T n r.2.1 + 1)).2.1, (p ++ r.2.2) ++ ((it (sk T n r.2.1 + 1)).2.2 ++ [((if sgn T n (sk T n r.2.1) = s1 then o1 else o2), 0)])) else (true, sk T n r.2.1, p ++ r.2.2)) = _
    by_cases z : r.1 = false
    · rw [if_pos z, if_pos z]
    · rw [if_neg z, if_neg z]
      by_cases z2 : sgn T n (sk T n r.2.1) = s1 ∨ sgn T n (sk T n r.2.1) = s2
      · rw [if_pos z2, if_pos z2, ← lpP_pre k]
        unfold preR
        rw [List.append_assoc]
      · rw [if_neg z2, if_neg z2]
        rfl
def pCb (T : Int → Int) (n a : Int) : Rr := lpP T n (pTru T n (untE T n 6)) 124 124 11 11 240 (lpP T n (untE T n 6) 38 38 10 10 240 (pCmp T n 6 a))
theorem pCnB_e (T : Int → Int) (n : Int) (s : Rr) : pCnB T n s = preR s.2.2 (pCb T n s.2.1) := by
  unfold pCnB pCb
  obtain ⟨k, hk⟩ : ∃ k : Nat, k = 240 := ⟨_, rfl⟩
  rw [← hk, ← lpP_pre, ← lpP_pre]
  rfl
theorem pCb_g {T : Int → Int} {n : Int} : PG n (pCb T n) := fun a h0 h1 => lpP_r h0 (pTru_g (untE_g T n 6)) (by decide) 240 _ (lpP_r h0 (untE_g T n 6) (by decide) 240 _ (pCmp_g a h0 h1))
/-- a clause read -/
def cRc (m m' : Mm) (c : Rc) : Prop := Fr [6, 7] m m' ∧ m' 6 3 = c.2.1 ∧ (0 ≤ m' 6 2 ∧ m' 6 2 ≤ 241) ∧ (c.1 = true → stC m m' (stpL [c.2.2] (m 6 2)))
theorem cRc.stop {m : Mm} {b : Int} (hs : 0 ≤ m 6 2 ∧ m 6 2 ≤ 241) : cRc m (up m 6 3 b) (false, b, [], []) := ⟨(Fr.rf _ _).up (by simp), up_same _ _ _ _, by rw [up_ne (Or.inr (by decide))]; exact hs, fun e => by cases e⟩
theorem stC.patch {m m' : Mm} {A B : List Int} {x y : Int} (h : stC m m' (A ++ ([x] ++ B))) : stC m (up m' 7 (m 6 2 + A.length) y) (A ++ ([y] ++ B)) := by
  obtain ⟨h1, h2, h3⟩ := h
  refine ⟨by rw [up_ne (Or.inl (by decide)), h1]; simp, fun j hj => by rw [up_ne (Or.inr (by omega))]; exact h2 j hj, fun j hj => ?_⟩
  have hj' : j < (A ++ ([x] ++ B)).length := by simp at hj ⊢; exact hj
  have h3 := h3 j hj'
  rw [up_at]
  by_cases z : j = A.length
  · rw [if_pos (by omega), z, List.getD_eq_getElem?_getD, List.getElem?_append_right (Nat.le_refl _), Nat.sub_self]
    rfl
  · rw [if_neg (by omega), h3, List.getD_eq_getElem?_getD, List.getD_eq_getElem?_getD]
    by_cases z2 : j < A.length
    · rw [List.getElem?_append_left z2, List.getElem?_append_left z2]
    · rw [List.getElem?_append_right (l₁ := A) (l₂ := [x] ++ B) (by omega), List.getElem?_append_right (l₁ := A) (l₂ := [y] ++ B) (by omega)]
      obtain ⟨k, hk⟩ : ∃ k, j - A.length = k + 1 := ⟨j - A.length - 1, by omega⟩
      rw [hk]
      rfl
theorem stpL_app : ∀ (L : Lw) (c : Cd × Cd) (o : Int), stpL (L ++ [c]) o = stpL L o ++ stpL [c] (o + (stpL L o).length)
  | [], c, o => by
    show stpL [c] o = stpL [c] (o + ((0 : Nat) : Int))
    rw [show o + ((0 : Nat) : Int) = o by omega]
  | (t, s) :: L, c, o => by
    have ec : ∀ L' : Lw, stpL ((t, s) :: L') o = if t = [] then enc s ++ [32768] ++ stpL L' (o + s.length + 1) else enc t ++ [49152 + (o + t.length + 1 + s.length + 1)] ++ enc s ++ [32768] ++ stpL L' (o + t.length + 1 + s.length + 1) := fun _ => rfl
    show stpL ((t, s) :: (L ++ [c])) o = stpL ((t, s) :: L) o ++ stpL [c] (o + (stpL ((t, s) :: L) o).length)
    rw [ec, ec]
    by_cases z : t = []
    · have e : o + (s.length : Int) + 1 + (stpL L (o + s.length + 1)).length = o + ((enc s ++ [32768] ++ stpL L (o + s.length + 1)).length : Int) := by
        simp only [List.length_append, enc_len, List.length_singleton]
        omega
      rw [if_pos z, if_pos z, stpL_app L c, e]
      simp only [List.append_assoc]
    · have e : o + (t.length : Int) + 1 + (s.length : Int) + 1 + (stpL L (o + t.length + 1 + s.length + 1)).length = o + ((enc t ++ [49152 + (o + t.length + 1 + s.length + 1)] ++ enc s ++ [32768] ++ stpL L (o + t.length + 1 + s.length + 1)).length : Int) := by
        simp only [List.length_append, enc_len, List.length_singleton]
        omega
      rw [if_neg z, if_neg z, stpL_app L c, e]
      simp only [List.append_assoc]
theorem stpL_len : ∀ (L : Lw) (o : Int), (stpL L o).length ≤ (L.map fun c => c.1.length + c.2.length + 2).sum
  | [], _ => Nat.le_refl _
  | (t, s) :: L, o => by
    unfold stpL
    rw [List.map_cons, List.sum_cons]
    by_cases z : t = []
    · rw [if_pos z]
      have := stpL_len L (o + s.length + 1)
      simp only [List.length_append, enc_len, List.length_singleton]
      omega
    · rw [if_neg z]
      have := stpL_len L (o + t.length + 1 + s.length + 1)
      simp only [List.length_append, enc_len, List.length_singleton]
      omega
section CLaw4
variable {X : Cx} {d : Nat} {m : Mm} {Q : Int → Mm → Prop} {Q0 : Mm → Prop} {T : Int → Int} {n : Int}
/-- a condition, a ?, a sum -/
theorem P_tail_c (hB : Bsh X.2.2.1) (hT : TOk T n) {D : Nat} {l1 l2 : Int} {F : Int → Rr} (hF : CJ T n (P_readCondition X (D + 2) 0 l2) F) (gF : PG n F) (hsum : CJ T n (P_readSum X (D + 2) 0) (sumE T n 6)) {p : Cd} {m0 : Mm} (h0 : stC m0 m (enc p)) (hf0 : Fr [6, 7] m0 m) (hp0 : 0 ≤ m0 6 2) (hm : TpC T n m) (ha : 0 ≤ m 6 3 ∧ m 6 3 ≤ n) (hs : 0 ≤ m 6 2 ∧ m 6 2 ≤ m 6 3) (hpt : (F (m 6 3)).1 = true → p ++ (F (m 6 3)).2.2 ≠ []) (h : ∀ m', cRc m0 m' (pTail T n (preR p (F (m 6 3)))) → Q (b2i (pTail T n (preR p (F (m 6 3)))).1) m') : P_readClause_71 X (D + 3) l1 l2 m Q := by
  have hn := hT.1
  have hq := gF (m 6 3) ha.1 ha.2
  refine P_readClause_71w hB (hF m _ hm ha hs (fun m1 g => ?_))
  generalize F (m 6 3) = q at h hq g hpt ⊢
  unfold pTail preR at h
  dsimp only at h
  have hk := sk_ge T n q.2.1
  have hk2 := sk_le (T := T) hq.2.1
  obtain ⟨g1, g2, g3, g4⟩ := g
  cases hb : q.1 with
  | false =>
    rw [if_pos hb] at h
    exact ⟨by decide, fun _ => h m1 ⟨hf0.tr g1, g2, g3, fun e => by cases e⟩, fun e => absurd rfl e⟩
  | true =>
    rw [if_neg (by rw [hb]; decide)] at h
    have g4 := g4 hb
    have hq2 := hq.2.2 hb
    have hpt := hpt hb
    have e1 := g4.1
    rw [enc_len] at e1
    refine ⟨by decide, fun e => absurd e (by decide), fun _ => P_passes_c hB hT (hm.f67 g1) (by omega) (by decide) (fun z => ⟨by decide, fun _ => ?_, fun e => absurd e (by decide)⟩) (fun z => ⟨by decide, fun e => absurd rfl e, fun _ => ?_⟩)⟩
    · rw [g2] at z ⊢
      rw [if_pos z] at h
      have hz := sgn_nz (T := T) (n := n) (a := sk T n q.2.1) (by omega)
      have hsm := sumE_g T n 6 (sk T n q.2.1 + 1) (by omega) (by omega)
      have e62 : (up m1 6 3 (sk T n q.2.1 + 1)) 6 2 = m1 6 2 := up_ne (Or.inr (by decide))
      refine P_write_c hB (by decide) (by decide) (by rw [e62]; exact g3) (fun m2 w1 w2 w3 w4 => ?_)
      rw [up_same] at w2
      rw [e62] at w4 ⊢
      have w4 := (w4 (by omega)).at3
      have hm2 : TpC T n m2 := (hm.f67 g1).at3.f67 w1
      have e2 : m2 6 2 = m1 6 2 + 1 := by rw [w4.1]; rfl
      refine hsum.at (a := sk T n q.2.1 + 1) w2 hm2 (by omega) (by omega) (fun m3 k => ?_)
      generalize sumE T n 6 (sk T n q.2.1 + 1) = s at h hsm k ⊢
      obtain ⟨k1, k2, k3, k4⟩ := k
      have hf3 : Fr [6, 7] m0 m3 := ((hf0.tr g1).tr (((Fr.rf _ m1).up (by simp)).tr w1)).tr k1
      cases hsb : s.1 with
      | false =>
        have h := h m3 ⟨hf3, k2, k3, fun e => by rw [hsb] at e; cases e⟩
        rw [hsb] at h
        exact ⟨by decide, fun e => absurd rfl e, fun _ => h⟩
      | true =>
        have k4 := k4 hsb
        have hs2 := hsm.2.2 hsb
        have e3 := k4.1
        rw [enc_len] at e3
        refine ⟨by decide, fun _ => P_write_c hB (by decide) (by decide) k3 (fun m4 x1 x2 x3 x4 => ?_), fun e => absurd e (by decide)⟩
        have x4 := x4 (by omega)
        have e4 : m4 6 2 = m3 6 2 + 1 := by rw [x4.1]; rfl
        have e0 := h0.1
        rw [enc_len] at e0
        -- all the steps
        have all : stC m0 m4 (enc (p ++ q.2.2) ++ ([49152] ++ (enc s.2.2 ++ [32768]))) := by
          rw [enc_app, List.append_assoc]
          exact h0.tr (g4.tr (w4.tr (k4.tr x4)))
        have pat := all.patch (y := 49152 + m4 6 2)
        have el : m0 6 2 + ((enc (p ++ q.2.2)).length : Int) = m1 6 2 := by rw [enc_len, List.length_append]; omega
        rw [el] at pat
        have eold : m4 7 (m1 6 2) = 49152 := by
          have := all.2.2 (enc (p ++ q.2.2)).length (by simp)
          rw [el, List.getD_eq_getElem?_getD, List.getElem?_append_right (Nat.le_refl _), Nat.sub_self] at this
          exact this
        have eor : iO (m4 7 (m1 6 2)) (m4 6 2) = 49152 + m4 6 2 := by
          rw [eold]
          have := iO_low (a := 3) (b := m4 6 2) 14 (by decide) (by omega) (by omega)
          exact this
        refine ⟨by omega, fun z5 => by omega, fun z5 => ⟨by omega, ?_⟩⟩
        rw [eor]
        have hfin := h (up m4 7 (m1 6 2) (49152 + m4 6 2)) ⟨(hf3.tr x1).up (by simp), by rw [up_ne (Or.inl (by decide)), x2, k2], by rw [up_ne (Or.inl (by decide))]; exact x3, fun _ => ?_⟩
        · rw [hsb] at hfin
          exact hfin
        · have es : stpL [(p ++ q.2.2, s.2.2)] (m0 6 2) = enc (p ++ q.2.2) ++ ([49152 + m4 6 2] ++ (enc s.2.2 ++ [32768])) := by
            conv => lhs; unfold stpL
            rw [if_neg hpt]
            have en : m0 6 2 + ((p ++ q.2.2).length : Int) + 1 + (s.2.2.length : Int) + 1 = m4 6 2 := by rw [List.length_append]; omega
            rw [en]
            show enc (p ++ q.2.2) ++ [49152 + m4 6 2] ++ enc s.2.2 ++ [32768] ++ [] = _
            simp
          show stC m0 _ (stpL [(p ++ q.2.2, s.2.2)] (m0 6 2))
          rw [es]
          exact pat
    · rw [g2] at z ⊢
      rw [if_neg z] at h
      exact h _ ⟨(hf0.tr g1).up (by simp), up_same _ _ _ _, by rw [up_ne (Or.inr (by decide))]; exact g3, fun e => by cases e⟩
theorem P_clause_c (hB : Bsh X.2.2.1) (hB2 : X.2.2.1.length ≤ 1000000) (hT : TOk T n) (hm : TpC T n m) (ha : 0 ≤ m 6 3 ∧ m 6 3 ≤ n) (hs : 0 ≤ m 6 2 ∧ m 6 2 ≤ m 6 3) (h : ∀ m', cRc m m' (pCls T n (m 6 3)) → Q (b2i (pCls T n (m 6 3)).1) m') : P_readClause X (d + 31) m Q := by
  have hn := hT.1
  have hs' : 0 ≤ m 6 2 ∧ m 6 2 ≤ 241 := by omega
  have hk := sk_ge T n (m 6 3)
  have hk2 := sk_le (T := T) ha.2
  unfold pCls at h
  have hsum : CJ T n (P_readSum X (d + 30) 0) (sumE T n 6) := P_sumE hB hB2 hT 6 (d + 30) (by decide) (by omega)
  have hun : CJ T n (P_readUnit X (d + 28) 0 0) (untE T n 6) := P_untE hB hB2 hT 6 (d + 28) (by decide) (by omega)
  have gu := untE_g T n 6
  have htr : CJ T n (P_readTruth X (d + 29) 0 0) (pTru T n (untE T n 6)) := P_truth_c (D := d + 26) hB hT hun gu hun gu
  have hcn : CJ T n (P_readCondition X (d + 30) 0 0) (pCnd T n (untE T n 6)) := P_cond_c (D := d + 27) hB hT htr (pTru_g gu) htr (pTru_g gu)
  have hu1 : CJ T n (P_readUnit X (d + 28) 0 1) (pCmp T n 6) := P_unit1_c (D := d + 26) hB hT (P_sumE hB hB2 hT 6 (d + 27) (by decide) (by omega))
  have gt1 : PG n (fun a => lpP T n (untE T n 6) 38 38 10 10 240 (pCmp T n 6 a)) := fun a h0 h1 => lpP_r h0 gu (by decide) 240 _ (pCmp_g a h0 h1)
  have hcb : CJ T n (P_readCondition X (d + 30) 0 1) (pCb T n) := P_cond_c (D := d + 27) hB hT (P_truth_c (D := d + 26) hB hT hu1 pCmp_g hun gu) gt1 htr (pTru_g gu)
  refine P_readClausew hB (P_passes_c hB hT hm ha (by decide) (fun z => ⟨by decide, fun e => absurd e (by decide), fun _ => ?_⟩) (fun z => ⟨by decide, fun _ => ?_, fun e => absurd rfl e⟩))
  · rw [if_pos z] at h
    have hz := sgn_nz (T := T) (n := n) (a := sk T n (m 6 3)) (by omega)
    generalize sk T n (m 6 3) = b at h hk hk2 hz ⊢
    have hl := sk_ge T n (b + 1)
    have hl2 := sk_le (T := T) (n := n) (a := b + 1) (by omega)
    have e63 : (up m 6 3 (b + 1)) 6 3 = b + 1 := up_same _ _ _ _
    refine P_passes_c hB hT hm.at3 (by rw [e63]; omega) (by decide) (fun z2 => ⟨by decide, fun _ => ?_, fun e => absurd e (by decide)⟩) (fun z2 => ⟨by decide, fun e => absurd rfl e, fun _ => ?_⟩)
    · rw [e63] at z2 ⊢
      rw [if_pos z2] at h
      rw [up_up]
      have hz2 := sgn_nz (T := T) (n := n) (a := sk T n (b + 1)) (by omega)
      generalize sk T n (b + 1) = b1 at h hl hl2 hz2 ⊢
      have hp := sk_ge T n (b1 + 1)
      have hp2 := sk_le (T := T) (n := n) (a := b1 + 1) (by omega)
      have hsr := sgn_r hT (a := sk T n (b1 + 1)) (by omega)
      have e63' : (up m 6 3 (b1 + 1)) 6 3 = b1 + 1 := up_same _ _ _ _
      refine P_coming_c hB hT hm.at3 (by rw [e63']; omega) ?_
      rw [e63', up_up]
      generalize sk T n (b1 + 1) = b2 at h hp hp2 hsr ⊢
      have hm2 : TpC T n (up m 6 3 b2) := hm.at3
      have e2 : (up m 6 3 b2) 6 3 = b2 := up_same _ _ _ _
      have e22 : (up m 6 3 b2) 6 2 = m 6 2 := up_ne (Or.inr (by decide))
      have hst0 : stC m (up m 6 3 b2) (enc []) := stC.rf e22 (up_off (by decide))
      have hf0 : Fr [6, 7] m (up m 6 3 b2) := (Fr.rf _ m).up (by simp)
      unfold pCl2 at h
      have cond : (sgn T n b2 = 33 ∨ sgn T n b2 = 40) → ∀ l1, P_readClause_71 X (d + 31) l1 0 (up m 6 3 b2) Q := by
        intro zc l1
        rw [if_pos zc] at h
        refine P_tail_c (D := d + 28) (p := []) hB hT hcn (pCnd_g gu) hsum hst0 hf0 hs.1 hm2 (by rw [e2]; omega) (by rw [e2, e22]; omega) (fun hb1 hnil => ?_) (fun m' g => ?_)
        · rw [e2] at hb1 hnil
          have := (pCnd_ty (untE_ty T n 6) b2 hb1).top (by decide)
          rw [List.nil_append] at hnil
          rw [hnil] at this
          cases this
        · rw [e2] at g ⊢
          exact h m' g
      refine ⟨by omega, fun zc => P_readClause_41w hB (P_readClause_57w hB ⟨by decide, fun _ => cond (Or.inl zc) _, fun e => absurd rfl e⟩), fun zc => ⟨fun zc2 => P_readClause_41w hB (P_readClause_57w hB ⟨by decide, fun _ => cond (Or.inr zc2) _, fun e => absurd rfl e⟩), fun zc2 => ?_⟩⟩
      rw [if_neg (by omega)] at h
      have hq := sumE_g T n 6 b2 (by omega) hp2
      have hty := sumE_ty T n 6 b2
      refine hsum.at (a := b2) e2 hm2 (by omega) (by rw [e22]; omega) (fun m1 g => ?_)
      have g := g.at3
      generalize sumE T n 6 b2 = s at h hq g hty ⊢
      cases hb1 : s.1 with
      | false =>
        rw [if_pos hb1] at h
        exact ⟨by decide, fun e => absurd rfl e, fun _ => h m1 ⟨g.1, g.2.1, g.2.2.1, fun e => by cases e⟩⟩
      | true =>
        rw [if_neg (by rw [hb1]; decide)] at h
        have hq2 := hq.2.2 hb1
        have g4 := g.2.2.2 hb1
        have e1 := g4.1
        rw [enc_len] at e1
        have hv := sk_ge T n s.2.1
        have hv2 := sk_le (T := T) hq.2.1
        have hsr2 := sgn_r hT (a := sk T n s.2.1) (by omega)
        have e3 := g.2.1
        refine ⟨by decide, fun _ => P_readClause_57w hB ⟨by decide, fun e => absurd e (by decide), fun _ => P_coming_c hB hT (hm.f67 g.1) (by omega) ?_⟩, fun e => absurd e (by decide)⟩
        rw [e3]
        refine P_isCmp_c hB hsr2 (fun z3 => ⟨by decide, fun e => absurd e (by decide), fun _ => ?_⟩) (fun z3 => ⟨by decide, fun _ => ?_, fun e => absurd rfl e⟩)
        · rw [if_pos z3, pCnB_e] at h
          have e4 : (up m1 6 3 (sk T n s.2.1)) 6 3 = sk T n s.2.1 := up_same _ _ _ _
          have e5 : (up m1 6 3 (sk T n s.2.1)) 6 2 = m1 6 2 := up_ne (Or.inr (by decide))
          have esk : pCb T n (sk T n s.2.1) = pCb T n s.2.1 := by unfold pCb; rw [pCmp_sk]
          refine P_tail_c (D := d + 28) (p := s.2.2) hB hT hcb pCb_g hsum g4.end3 (g.1.up (by simp)) hs.1 (hm.f67 g.1).at3 (by rw [e4]; omega) (by rw [e4, e5]; omega) (fun _ hnil => ?_) (fun m' g' => ?_)
          · have := (hty hb1).top (by decide)
            rw [List.append_eq_nil_iff.mp hnil |>.1] at this
            cases this
          · rw [e4, esk] at g' ⊢
            exact h m' g'
        · rw [if_neg z3] at h
          have e5 : (up m1 6 3 (sk T n s.2.1)) 6 2 = m1 6 2 := up_ne (Or.inr (by decide))
          refine P_write_c hB (by decide) (by decide) (by rw [e5]; exact g.2.2.1) (fun m2 w1 w2 w3 w4 => h m2 ⟨(g.1.up (by simp)).tr w1, by rw [w2, up_same], w3, fun _ => ?_⟩)
          rw [e5] at w4
          show stC m m2 (enc s.2.2 ++ [32768] ++ [])
          rw [List.append_nil]
          exact g4.end3.tr (w4 (by omega))
    · rw [e63] at z2 ⊢
      rw [if_neg z2] at h
      rw [up_up]
      exact h _ (cRc.stop hs')
  · rw [if_neg z] at h
    exact h _ (cRc.stop hs')
/-- the class's reading of a law -/
theorem P_read_12_c (hB : Bsh X.2.2.1) (hB2 : X.2.2.1.length ≤ 1000000) (hT : TOk T n) {m0 : Mm} (h0 : m0 6 2 = 0) : ∀ (k : Nat) (l1 : Int) (m : Mm) (L : Lw), k ≤ 241 → l1 = 241 - k → TpC T n m → Fr [6, 7] m0 m → stC m0 m (stpL L 0) → (0 ≤ m 6 3 ∧ m 6 3 ≤ n) → LwR L (m 6 3) → (∀ m', Fr [6, 7] m0 m' → ((lwP T n k (m 6 3) L).1 = true → stC m0 m' (stpL (lwP T n k (m 6 3) L).2.2 0)) → Q (if (lwP T n k (m 6 3) L).1 = true then -1 else (lwP T n k (m 6 3) L).2.1) m') → P_read_12 X (d + 32) l1 m Q := by
  have hn := hT.1
  intro k
  induction k with
  | zero =>
    intro l1 m L hk hl hm hf hst ha hL h
    refine P_read_12w hB ⟨by omega, fun _ => ?_, fun z => by omega⟩
    exact h m hf (fun e => by cases e)
  | succ k ih =>
    intro l1 m L hk hl hm hf hst ha hL h
    have e62 := hst.1
    have hlen := stpL_len L 0
    have hL2 := hL.2.2
    obtain ⟨c1, c2, c3⟩ := pCls_r (T := T) ha.1 ha.2
    have hk1 := sk_ge T n (pCls T n (m 6 3)).2.1
    have hk2 := sk_le (T := T) c2
    have hsr := sgn_r hT (a := sk T n (pCls T n (m 6 3)).2.1) (by omega)
    unfold lwP at h
    refine P_read_12w hB ⟨by omega, fun z => by omega, fun _ => P_clause_c hB hB2 hT hm ha (by omega) (fun m1 g => ?_)⟩
    generalize pCls T n (m 6 3) = c at h c1 c2 c3 hk1 hk2 hsr g ⊢
    obtain ⟨g1, g2, g3, g4⟩ := g
    cases hb : c.1 with
    | false =>
      rw [if_pos hb] at h
      have h := h m1 (hf.tr g1) (fun e => by cases e)
      exact ⟨by decide, fun e => absurd rfl e, fun _ => by rw [g2]; exact h⟩
    | true =>
      rw [if_neg (by rw [hb]; decide)] at h
      have g4 := g4 hb
      have c3 := c3 hb
      have hst1 : stC m0 m1 (stpL (L ++ [c.2.2]) 0) := by
        rw [stpL_app, show (0 : Int) + ((stpL L 0).length : Int) = m 6 2 by omega]
        exact hst.tr g4
      have hL1 : LwR (L ++ [c.2.2]) c.2.1 := hL.add c3.2.2 c3.1 c3.2.1
      refine ⟨by decide, fun _ => P_coming_c hB hT (hm.f67 g1) (by omega) ?_, fun e => absurd e (by decide)⟩
      rw [g2]
      refine ⟨by omega, fun z => ?_, fun z => ?_⟩
      · rw [if_neg z] at h
        have e3 : (up m1 6 3 (sk T n c.2.1)) 6 3 = sk T n c.2.1 := up_same _ _ _ _
        refine P_passes_c hB hT (hm.f67 g1).at3 (by rw [e3]; omega) (by decide) (fun z2 => ⟨by decide, fun _ => ?_, fun e => absurd e (by decide)⟩) (fun z2 => ⟨by decide, fun e => absurd rfl e, fun _ => ?_⟩)
        · rw [e3, sk_sk] at z2 ⊢
          have hz := sgn_nz (T := T) (n := n) (a := sk T n c.2.1) (by omega)
          rw [if_pos z2] at h
          rw [up_up]
          have e4 : (up m1 6 3 (sk T n c.2.1 + 1)) 6 3 = sk T n c.2.1 + 1 := up_same _ _ _ _
          refine ih (l1 + 1) _ (L ++ [c.2.2]) (by omega) (by omega) (hm.f67 g1).at3 ((hf.tr g1).up (by simp)) hst1.end3 (by rw [e4]; omega) (by rw [e4]; exact hL1.le (by omega)) (fun m' w1 w2 => ?_)
          rw [e4] at w2 ⊢
          exact h m' w1 w2
        · rw [e3, sk_sk] at z2 ⊢
          rw [if_neg z2] at h
          rw [up_up, up_same]
          exact h _ ((hf.tr g1).up (by simp)) (fun e => by cases e)
      · rw [if_pos z] at h
        exact h _ ((hf.tr g1).up (by simp)) (fun _ => hst1.end3)
theorem P_read_c (hB : Bsh X.2.2.1) (hB2 : X.2.2.1.length ≤ 1000000) (hT : TOk T n) (hm : TpC T n m) (h : ∀ m', Fr [6, 7] m m' → ((lwP T n 241 0 []).1 = true → m' 6 2 = (stpL (lwP T n 241 0 []).2.2 0).length ∧ ∀ j : Nat, j < (stpL (lwP T n 241 0 []).2.2 0).length → m' 7 j = (stpL (lwP T n 241 0 []).2.2 0).getD j 0) → Q (if (lwP T n 241 0 []).1 = true then -1 else (lwP T n 241 0 []).2.1) m') : P_read X (d + 32) m Q := by
  have hn := hT.1
  have e2 : (up (up m 6 3 0) 6 2 0) 6 2 = 0 := up_same _ _ _ _
  have e3 : (up (up m 6 3 0) 6 2 0) 6 3 = 0 := by rw [up_ne (Or.inr (by decide)), up_same]
  have hm' : TpC T n (up (up m 6 3 0) 6 2 0) := hm.fr (by rw [up_off (by decide), up_off (by decide)]) (by rw [up_off (by decide), up_off (by decide)])
  refine P_readw hB (P_read_12_c hB hB2 hT e2 241 0 _ [] (by decide) (by decide) hm' (Fr.rf _ _) (stC.rf rfl rfl) (by rw [e3]; omega) ⟨fun c hc => by simp at hc, by rw [e3]; exact Int.le_refl _, by rw [e3]; exact Int.le_refl _⟩ (fun m' w1 w2 => ?_))
  rw [e3] at w2 ⊢
  refine h m' ((((Fr.rf _ m).up (by simp)).up (by simp)).tr w1) (fun e => ?_)
  obtain ⟨a1, a2, a3⟩ := w2 e
  rw [e2] at a1 a3
  refine ⟨by omega, fun j hj => ?_⟩
  have := a3 j hj
  rw [show (0 : Int) + (j : Int) = j by omega] at this
  exact this
end CLaw4
