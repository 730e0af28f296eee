/-! ===== the class reads a law: conditions, clauses, the whole ===== -/
theorem pCmp_sk (T : Int → Int) (n : Int) (e : Nat) (a : Int) : pCmp T n e (sk T n a) = pCmp T n e a := by unfold pCmp; rw [sk_sk]
theorem cRes.at3 {m m' : Mm} {v : Int} {r : Rr} (g : cRes (up m 6 3 v) m' r) : cRes m m' r := ⟨((Fr.rf _ m).up (by simp)).tr g.1, g.2.1, g.2.2.1, fun e => (g.2.2.2 e).at3⟩
/-- what was read ahead, and what comes behind -/
theorem cRes.tr {m m1 m2 : Mm} {r : Rr} {q : Rr} (h1 : cRes m m1 r) (hb : r.1 = true) (h2 : cRes m1 m2 q) : cRes m m2 (q.1, q.2.1, r.2.2 ++ q.2.2) := by
  refine ⟨h1.1.tr h2.1, h2.2.1, h2.2.2.1, fun e => ?_⟩
  show stC m m2 (enc (r.2.2 ++ q.2.2))
  rw [enc_app]
  exact (h1.2.2.2 hb).tr (h2.2.2.2 e)
section CLaw3
variable {X : Cx} {d : Nat} {m : Mm} {Q : Int → Mm → Prop} {Q0 : Mm → Prop} {T : Int → Int} {n : Int}
theorem P_isCmp_c (hB : Bsh X.2.2.1) {c : Int} (hc : 0 ≤ c ∧ c ≤ 255) (hy : (c = 61 ∨ c = 60 ∨ c = 62) → Q 1 m) (ho : ¬ (c = 61 ∨ c = 60 ∨ c = 62) → Q 0 m) : P_isComparison X d c m Q :=
  P_isComparisonw hB ⟨by omega, fun z => hy (by omega), fun z => ⟨fun z2 => hy (by omega), fun z2 => ⟨fun z3 => ho (by omega), fun z3 => hy (by omega)⟩⟩⟩
theorem P_cmp_c (hB : Bsh X.2.2.1) (hT : TOk T n) {e D : Nat} {x y l3 : Int} (hsum : CJ T n (P_readSum X (D + 1) x) (sumE T n e)) : CJ T n (fun m Q => P_readUnit_104 X (D + 2) x y l3 m Q) (pCmp T n e) := by
  intro m Q hm ha hs h
  have hn := hT.1
  have hk := sk_ge T n (m 6 3)
  have hk2 := sk_le (T := T) ha.2
  have hsr := sgn_r hT (a := sk T n (m 6 3)) (by omega)
  unfold pCmp at h
  obtain ⟨b, hb⟩ : ∃ b, b = sk T n (m 6 3) := ⟨_, rfl⟩
  rw [← hb] at h hk hk2 hsr
  obtain ⟨c, hc⟩ : ∃ c, c = sgn T n b := ⟨_, rfl⟩
  rw [← hc] at h hsr
  refine P_readUnit_104w hB (P_coming_c hB hT hm ha ?_)
  rw [← hb, ← hc]
  refine P_isCmp_c hB hsr (fun z => ⟨by decide, fun _ => ?_, fun e => absurd e (by decide)⟩) (fun z => ⟨by decide, fun e => absurd rfl e, fun _ => ?_⟩)
  · have hz := sgn_nz (T := T) (n := n) (a := b) (by omega)
    have hq := sumE_g T n e (b + 1) (by omega) (by omega)
    rw [if_pos z] at h
    rw [adv6]
    refine hsum.at (a := b + 1) (up_same _ _ _ _) hm.at3 (by omega) (by rw [up_ne (Or.inr (by decide))]; omega) (fun m1 g => ?_)
    generalize sumE T n e (b + 1) = q at h hq g ⊢
    have g := g.at3
    have fin : P_write X (D + 1) (srt (cmO c)) 0 m1 (fun m165 => (b2i q.1 = 0 ∨ b2i q.1 = 1) ∧ Q (b2i q.1) m165) := by
      have hco := cmO_r c
      have hsr' : 0 ≤ srt (cmO c) ∧ srt (cmO c) ≤ 13 := by
        unfold srt
        repeat' split
        all_goals omega
      refine P_write_c hB hsr' (by decide) g.2.2.1 (fun m2 w1 w2 w3 w4 => ⟨b2i_01 _, h m2 ⟨g.1.tr w1, w2.trans g.2.1, w3, fun e => ?_⟩⟩)
      have g4 := g.2.2.2 e
      have hq2 := hq.2.2 e
      have e1 := g4.1
      rw [enc_len] at e1
      show stC m m2 (enc (q.2.2 ++ [(cmO c, 0)]))
      rw [enc_app]
      exact g4.tr (w4 (by omega))
    refine ⟨by omega, fun z1 => ⟨fun z2 => ?_, fun z2 => ?_⟩, fun z1 => ?_⟩
    · have ec : cmO c = 8 := by unfold cmO; rw [if_neg z1, if_neg z2]
      rw [ec] at fin
      exact fin
    · have ec : cmO c = 7 := by unfold cmO; rw [if_neg z1, if_pos z2]
      rw [ec] at fin
      exact fin
    · have ec : cmO c = 6 := by unfold cmO; rw [if_pos z1]
      rw [ec] at fin
      exact fin
  · rw [if_neg z] at h
    exact h _ (cRes.stop (by omega))
/-- a unit whose sum has been read -/
theorem P_unit1_c (hB : Bsh X.2.2.1) (hT : TOk T n) {e D : Nat} {x : Int} (hsum : CJ T n (P_readSum X (D + 1) x) (sumE T n e)) : CJ T n (P_readUnit X (D + 2) x 1) (pCmp T n e) := by
  intro m Q hm ha hs h
  have hk := sk_ge T n (m 6 3)
  have hk2 := sk_le (T := T) ha.2
  refine P_readUnitw hB (P_coming_c hB hT hm ha ⟨by decide, fun _ => P_readUnit_90w hB ⟨by decide, fun _ => ?_, fun e => absurd e (by decide)⟩, fun e => absurd e (by decide)⟩)
  refine (P_cmp_c hB hT hsum).at (a := sk T n (m 6 3)) (up_same _ _ _ _) hm.at3 (by omega) (by rw [up_ne (Or.inr (by decide))]; omega) (fun m1 g => ?_)
  rw [pCmp_sk] at g ⊢
  exact h m1 g.at3
theorem P_unit_c (hB : Bsh X.2.2.1) (hT : TOk T n) {un cn : Int → Rr} {e D : Nat} (he : e ≤ 6) (hsum : CJ T n (P_readSum X (D + 2) (6 - e)) (sumE T n e)) (hu : e ≠ 0 → CJ T n (P_readUnit X (D + 2) (7 - e) 0) un) (hc : e ≠ 0 → CJ T n (P_readCondition X (D + 2) (7 - e) 0) cn) (gu : e ≠ 0 → PG n un) (gc : e ≠ 0 → PG n cn) : CJ T n (P_readUnit X (D + 3) (6 - e) 0) (pUnit T n un cn e) := by
  intro m Q hm ha hs h
  have hn := hT.1
  have hk := sk_ge T n (m 6 3)
  have hk2 := sk_le (T := T) ha.2
  have hsr := sgn_r hT (a := sk T n (m 6 3)) (by omega)
  have hs' : 0 ≤ m 6 2 ∧ m 6 2 ≤ 241 := by omega
  unfold pUnit at h
  obtain ⟨b, hb⟩ : ∃ b, b = sk T n (m 6 3) := ⟨_, rfl⟩
  rw [← hb] at h hk hk2 hsr
  obtain ⟨c, hcc⟩ : ∃ c, c = sgn T n b := ⟨_, rfl⟩
  rw [← hcc] at h hsr
  refine P_readUnitw hB (P_coming_c hB hT hm ha ⟨by decide, fun e => absurd rfl e, fun _ => ?_⟩)
  rw [← hb, ← hcc]
  refine ⟨by omega, fun z => P_readUnit_21w hB ⟨by omega, fun z2 => ⟨by omega, fun _ => ?_, fun e => by omega⟩, fun z2 => ?_⟩, fun z => ⟨fun z1 => P_readUnit_90w hB ⟨by decide, fun e => absurd rfl e, fun _ => ?_⟩, fun z1 => P_readUnit_21w hB ⟨by omega, fun z2 => ⟨by omega, fun e => absurd z1 e, fun _ => ?_⟩, fun z2 => ?_⟩⟩⟩
  · have ez : e ≠ 0 := by omega
    rw [if_pos z, if_neg ez] at h
    have hz := sgn_nz (T := T) (n := n) (a := b) (by omega)
    have hq := gu ez (b + 1) (by omega) (by omega)
    rw [adv6, show (6 - (e : Int)) + 1 = 7 - e by omega]
    refine (hu ez).at (a := b + 1) (up_same _ _ _ _) hm.at3 (by omega) (by rw [up_ne (Or.inr (by decide))]; omega) (fun m1 g => ?_)
    have g := g.at3
    refine P_write_c hB (by decide) (by decide) g.2.2.1 (fun m2 w1 w2 w3 w4 => ⟨b2i_01 _, h m2 ⟨g.1.tr w1, w2.trans g.2.1, w3, fun e' => ?_⟩⟩)
    have g4 := g.2.2.2 e'
    have hq2 := hq.2.2 e'
    have e1 := g4.1
    rw [enc_len] at e1
    show stC m m2 (enc ((un (b + 1)).2.2 ++ [(9, 0)]))
    rw [enc_app]
    exact g4.tr (w4 (by omega))
  · rw [if_pos z, if_pos (by omega)] at h
    exact h _ (cRes.stop hs')
  · rw [if_neg z, if_neg z1] at h
    have hq := sumE_g T n e b (by omega) hk2
    refine hsum.at (a := b) (up_same _ _ _ _) hm.at3 (by omega) (by rw [up_ne (Or.inr (by decide))]; omega) (fun m1 g => ?_)
    have g := g.at3
    cases hb1 : (sumE T n e b).1 with
    | false =>
      rw [if_pos hb1] at h
      have h := h m1 g
      rw [hb1] at h
      exact ⟨by decide, fun e => absurd rfl e, fun _ => h⟩
    | true =>
      rw [if_neg (by rw [hb1]; decide)] at h
      have hq2 := hq.2.2 hb1
      have e1 := (g.2.2.2 hb1).1
      rw [enc_len] at e1
      refine ⟨by decide, fun _ => ?_, fun e => absurd e (by decide)⟩
      exact (P_cmp_c hB hT hsum).at (a := (sumE T n e b).2.1) g.2.1 (hm.f67 g.1) (by omega) (by omega) (fun m2 g2 => h m2 (g.tr hb1 g2))
  · have ez : e ≠ 0 := by omega
    rw [if_neg z, if_pos z1, if_neg ez] at h
    have hz := sgn_nz (T := T) (n := n) (a := b) (by omega)
    have hq := gc ez (b + 1) (by omega) (by omega)
    rw [adv6, show (6 - (e : Int)) + 1 = 7 - e by omega]
    refine (hc ez).at (a := b + 1) (up_same _ _ _ _) hm.at3 (by omega) (by rw [up_ne (Or.inr (by decide))]; omega) (fun m3 g => ?_)
    exact P_thn_c (m := m) hB hT (by decide) (hm.at3.f67 g.1) g.at3 (by omega) h
  · rw [if_neg z, if_pos z1, if_pos (by omega)] at h
    exact h _ (cRes.stop hs')
/-- units with & between, the first one begun or not -/
theorem P_truth_c (hB : Bsh X.2.2.1) (hT : TOk T n) {u F0 : Int → Rr} {x y : Int} {D : Nat} (h0 : CJ T n (P_readUnit X (D + 2) x y) F0) (g0 : PG n F0) (hit : CJ T n (P_readUnit X (D + 2) x 0) u) (hg : PG n u) : CJ T n (P_readTruth X (D + 3) x y) (fun a => lpP T n u 38 38 10 10 240 (F0 a)) := by
  intro m Q hm ha hs h
  have hn := hT.1
  refine P_readTruthw hB (h0 m _ hm ha hs (fun m1 g => ?_))
  refine C_loop (J8 := fun l2 l3 _ m Q => P_readTruth_10 X (D + 3) x y l2 l3 m Q) (D := D + 2) hB hT hit hg (by decide) (by decide) (fun l2 l3 o4 m Q h1 h2 h3 hq => ?_) (fun l3 o4 m Q h1 h2 h3 hno hyes => ?_) hs 240 0 none m1 (F0 (m 6 3)) Q (by decide) (by decide) g (g0 _ ha.1 ha.2) (hm.f67 g.1) h
  · exact P_readTruth_10w hB ⟨by omega, fun _ => ⟨h1, hq⟩, fun _ => ⟨by omega, fun _ => ⟨h1, hq⟩, fun z => by omega⟩⟩
  · refine P_readTruth_10w hB ⟨by omega, fun z => by omega, fun _ => ⟨by decide, fun e => absurd e (by decide), fun _ => P_passes_c hB hT h2 h3 (by decide) (fun z => ⟨by decide, fun e => absurd e (by decide), fun _ => ?_⟩) (fun z => ⟨by decide, fun _ => ⟨Or.inr rfl, hno (by omega)⟩, fun e => absurd rfl e⟩)⟩⟩
    refine Rq.mono (hyes (Or.inl z)) (fun v m1 hw => ?_)
    have := hw none
    rw [if_pos z] at this
    exact this
theorem P_cond_c (hB : Bsh X.2.2.1) (hT : TOk T n) {u F0 : Int → Rr} {x y : Int} {D : Nat} (h0 : CJ T n (P_readTruth X (D + 2) x y) F0) (g0 : PG n F0) (hit : CJ T n (P_readTruth X (D + 2) x 0) u) (hg : PG n u) : CJ T n (P_readCondition X (D + 3) x y) (fun a => lpP T n u 124 124 11 11 240 (F0 a)) := by
  intro m Q hm ha hs h
  have hn := hT.1
  refine P_readConditionw hB (h0 m _ hm ha hs (fun m1 g => ?_))
  refine C_loop (J8 := fun l2 l3 _ m Q => P_readCondition_10 X (D + 3) x y l2 l3 m Q) (D := D + 2) hB hT hit hg (by decide) (by decide) (fun l2 l3 o4 m Q h1 h2 h3 hq => ?_) (fun l3 o4 m Q h1 h2 h3 hno hyes => ?_) hs 240 0 none m1 (F0 (m 6 3)) Q (by decide) (by decide) g (g0 _ ha.1 ha.2) (hm.f67 g.1) h
  · exact P_readCondition_10w hB ⟨by omega, fun _ => ⟨h1, hq⟩, fun _ => ⟨by omega, fun _ => ⟨h1, hq⟩, fun z => by omega⟩⟩
  · refine P_readCondition_10w hB ⟨by omega, fun z => by omega, fun _ => ⟨by decide, fun e => absurd e (by decide), fun _ => P_passes_c hB hT h2 h3 (by decide) (fun z => ⟨by decide, fun e => absurd e (by decide), fun _ => ?_⟩) (fun z => ⟨by decide, fun _ => ⟨Or.inr rfl, hno (by omega)⟩, fun e => absurd rfl e⟩)⟩⟩
    refine Rq.mono (hyes (Or.inl z)) (fun v m1 hw => ?_)
    have := hw none
    rw [if_pos z] at this
    exact this
theorem P_untE (hB : Bsh X.2.2.1) (hB2 : X.2.2.1.length ≤ 1000000) (hT : TOk T n) : ∀ (e D : Nat), e ≤ 6 → 3 * e + 8 ≤ D → CJ T n (P_readUnit X D (6 - e) 0) (untE T n e) := by
  intro e
  induction e with
  | zero =>
    intro D he hD
    obtain ⟨D', rfl⟩ : ∃ D', D = D' + 3 := ⟨D - 3, by omega⟩
    exact P_unit_c hB hT he (P_sumE hB hB2 hT 0 (D' + 2) he (by omega)) (fun h => absurd rfl h) (fun h => absurd rfl h) (fun h => absurd rfl h) (fun h => absurd rfl h)
  | succ e ih =>
    intro D he hD
    obtain ⟨D', rfl⟩ : ∃ D', D = D' + 5 := ⟨D - 5, by omega⟩
    have e7 : (7 : Int) - ((e + 1 : Nat) : Int) = 6 - e := by omega
    have hu : ∀ D2, 3 * e + 8 ≤ D2 → CJ T n (P_readUnit X D2 (6 - e) 0) (untE T n e) := fun D2 h2 => ih D2 (by omega) h2
    refine P_unit_c (D := D' + 2) hB hT he (P_sumE hB hB2 hT (e + 1) (D' + 4) he (by omega)) (fun _ => by rw [e7]; exact hu _ (by omega)) (fun _ => ?_) (fun _ => untE_g T n e) (fun _ => pCnd_g (untE_g T n e))
    rw [e7]
    have ht := P_truth_c hB hT (hu (D' + 2) (by omega)) (untE_g T n e) (hu (D' + 2) (by omega)) (untE_g T n e)
    exact P_cond_c (D := D' + 1) hB hT ht (pTru_g (untE_g T n e)) ht (pTru_g (untE_g T n e))
end CLaw3
