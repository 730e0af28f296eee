/-! ===== the class reads a law: atoms, terms, sums ===== -/
theorem up_id (m : Mm) (a : Nat) (k : Int) : up m a k (m a k) = m := by
  funext b j
  unfold up
  by_cases z : b = a ∧ j = k
  · rw [if_pos z, z.1, z.2]
  · rw [if_neg z]
theorem up_up (m : Mm) (a : Nat) (k v u : Int) : up (up m a k v) a k u = up m a k u := by
  funext b j
  unfold up
  by_cases z : b = a ∧ j = k
  · rw [if_pos z, if_pos z]
  · rw [if_neg z, if_neg z, if_neg z]
theorem adv6 (m : Mm) (b : Int) : up (up m 6 3 b) 6 3 (up m 6 3 b 6 3 + 1) = up m 6 3 (b + 1) := by rw [up_same, up_up]
theorem stC.base {m m1 m' : Mm} {cs : List Int} (h : stC m1 m' cs) (h2 : m1 6 2 = m 6 2) (h7 : m1 7 = m 7) : stC m m' cs := by
  unfold stC at h ⊢
  rw [h2, h7] at h
  exact h
theorem stC.at3 {m m' : Mm} {v : Int} {cs : List Int} (h : stC (up m 6 3 v) m' cs) : stC m m' cs := h.base (up_ne (Or.inr (by decide))) (up_off (by decide))
theorem stC.end3 {m m' : Mm} {v : Int} {cs : List Int} (h : stC m m' cs) : stC m (up m' 6 3 v) cs := by
  unfold stC at h ⊢
  rw [up_ne (Or.inr (by decide)), up_off (by decide)]
  exact h
theorem CJ.at {T : Int → Int} {n : Int} {J : Mm → (Int → Mm → Prop) → Prop} {F : Int → Rr} (hJ : CJ T n J F) {m : Mm} {Q : Int → Mm → Prop} {a : Int} (e : m 6 3 = a) (hm : TpC T n m) (ha : 0 ≤ a ∧ a ≤ n) (hs : 0 ≤ m 6 2 ∧ m 6 2 ≤ a) (h : ∀ m', cRes m m' (F a) → Q (b2i (F a).1) m') : J m Q := by
  subst e
  exact hJ m Q hm ha hs h
/-- a reader that stops at once -/
theorem cRes.stop {m : Mm} {b : Int} (hs : 0 ≤ m 6 2 ∧ m 6 2 ≤ 241) : cRes m (up m 6 3 b) (false, b, []) := ⟨(Fr.rf _ _).up (by simp), up_same _ _ _ _, by rw [up_ne (Or.inr (by decide))]; exact hs, fun e => by cases e⟩
theorem TpC.at3 {T : Int → Int} {n v : Int} {m : Mm} (h : TpC T n m) : TpC T n (up m 6 3 v) := h.fr (up_off (by decide)) (up_off (by decide))
section CLaw2
variable {X : Cx} {d : Nat} {m : Mm} {Q : Int → Mm → Prop} {Q0 : Mm → Prop} {T : Int → Int} {n : Int}
theorem P_num_4 (hB : Bsh X.2.2.1) (hT : TOk T n) : ∀ (k : Nat) (l1 l2 : Int) (m : Mm), k ≤ 4 → l2 = 4 - k → TpC T n m → (0 ≤ m 6 3 ∧ m 6 3 ≤ n) → (∀ l2', P_readNumber_59 X (d + 1) (nmL T n k (m 6 3) l1).2 l2' (up m 6 3 (nmL T n k (m 6 3) l1).1) Q) → P_readNumber_4 X (d + 1) l1 l2 m Q := by
  intro k
  induction k with
  | zero =>
    intro l1 l2 m hk hl hm ha h
    have h := h l2
    have e : nmL T n 0 (m 6 3) l1 = (m 6 3, l1) := rfl
    rw [e] at h
    dsimp only at h
    rw [up_id] at h
    exact P_readNumber_4w hB ⟨by omega, fun _ => h, fun z => by omega⟩
  | succ k ih =>
    intro l1 l2 m hk hl hm ha h
    refine P_readNumber_4w hB ⟨by omega, fun z => by omega, fun _ => B_digit_c hB hT hm ha.1 ha.2 (fun hd => ?_) (fun hd => ?_)⟩
    · have hlt := sgn_nz (T := T) (n := n) (a := m 6 3) (by omega)
      have e : nmL T n (k + 1) (m 6 3) l1 = nmL T n k (m 6 3 + 1) (10 * l1 + sgn T n (m 6 3) - 48) := by
        conv => lhs; unfold nmL
        rw [if_pos hd]
      rw [e] at h
      refine ⟨by decide, fun e => absurd e (by decide), fun _ => B_sign_c hB hT hm ha.1 ha.2 ?_⟩
      refine ih _ (l2 + 1) _ (by omega) (by omega) hm.at3 (by rw [up_same]; omega) (fun l2' => ?_)
      rw [up_same, up_up]
      exact h l2'
    · have h := h l2
      have e : nmL T n (k + 1) (m 6 3) l1 = (m 6 3, l1) := by
        conv => lhs; unfold nmL
        rw [if_neg hd]
      rw [e] at h
      dsimp only at h
      rw [up_id] at h
      exact ⟨by decide, fun _ => h, fun e => absurd rfl e⟩
theorem P_num_c (hB : Bsh X.2.2.1) (hT : TOk T n) : CJ T n (P_readNumber X (d + 1)) (pNum T n) := by
  intro m Q hm ha hs h
  have hn := hT.1
  have hr := nmL_r (T := T) (n := n) 4 (m 6 3) 0 ha.2
  have hv := nmL_v (T := T) (n := n) 4 (m 6 3) 0 0 (by decide) (by decide)
  have e4 : ((0 : Int) + 1) * 10 ^ 4 - 1 = 9999 := by decide
  rw [e4] at hv
  refine P_readNumberw hB (P_num_4 hB hT 4 0 0 m (by decide) (by decide) hm ha (fun l2' => ?_))
  unfold pNum at h
  generalize nmL T n 4 (m 6 3) 0 = p at h hr hv ⊢
  refine P_readNumber_59w hB (P_write_c hB (by decide) (by omega) (by rw [up_ne (Or.inr (by decide))]; omega) (fun m1 g1 g2 g3 g4 => ?_))
  rw [up_same] at g2
  rw [up_ne (Or.inr (by decide))] at g4
  rw [g2]
  have hf : Fr [6, 7] m m1 := ((Fr.rf _ m).up (by simp)).tr g1
  refine B_digit_c hB hT (hm.f67 hf) (by omega) (by omega) (fun hd => ⟨by decide, fun _ => ?_, fun e => absurd e (by decide)⟩) (fun hd => ⟨by decide, fun e => absurd rfl e, fun _ => ?_⟩)
  · have h := h m1
    rw [decide_eq_false (fun e => e hd)] at h
    exact h ⟨hf, g2, g3, fun e => by cases e⟩
  · have h := h m1
    rw [decide_eq_true hd] at h
    refine h ⟨hf, g2, g3, fun _ => ?_⟩
    have := (g4 (by omega)).at3
    show stC m m1 [16384 * srt 0 + p.2]
    have e0 : (16384 * 0 + p.2 : Int) = 16384 * srt 0 + p.2 := rfl
    rw [← e0]
    exact this
/-- a sign behind what was read -/
theorem P_thn_c (hB : Bsh X.2.2.1) (hT : TOk T n) {c : Int} {r : Rr} {m3 : Mm} (hc : 1 ≤ c ∧ c ≤ 255) (hm : TpC T n m3) (h3 : cRes m m3 r) (hr : 0 ≤ r.2.1 ∧ r.2.1 ≤ n) (h : ∀ m', cRes m m' (thn T n c r) → Q (b2i (thn T n c r).1) m') : (-2147483648 ≤ b2i r.1 ∧ b2i r.1 < 2147483648) ∧ (b2i r.1 = 0 → Q 0 m3) ∧ (b2i r.1 ≠ 0 → P_passes X (d + 2) c m3 (fun v m' => (-2147483648 ≤ v ∧ v < 2147483648) ∧ (v = 0 → Q 0 m') ∧ (v ≠ 0 → Q 1 m'))) := by
  obtain ⟨g1, g2, g3, g4⟩ := h3
  unfold thn at h
  cases hb : r.1 with
  | false =>
    rw [if_pos hb, hb] at h
    exact ⟨by decide, fun _ => h m3 ⟨g1, g2, g3, fun e => by rw [hb] at e; cases e⟩, fun e => absurd rfl e⟩
  | true =>
    rw [if_neg (by rw [hb]; decide)] at h
    refine ⟨by decide, fun e => absurd e (by decide), fun _ => P_passes_c hB hT hm (by rw [g2]; exact hr) hc (fun z => ?_) (fun z => ?_)⟩
    · rw [g2] at z ⊢
      rw [if_pos z] at h
      refine ⟨by decide, fun e => absurd e (by decide), fun _ => h _ ⟨g1.up (by simp), up_same _ _ _ _, by rw [up_ne (Or.inr (by decide))]; exact g3, fun _ => (g4 hb).end3⟩⟩
    · rw [g2] at z ⊢
      rw [if_neg z] at h
      exact ⟨by decide, fun _ => h _ ⟨g1.up (by simp), up_same _ _ _ _, by rw [up_ne (Or.inr (by decide))]; exact g3, fun e => by cases e⟩, fun e => absurd rfl e⟩
theorem P_atom_c (hB : Bsh X.2.2.1) (hB2 : X.2.2.1.length ≤ 1000000) (hT : TOk T n) {inn : Int → Rr} {e D : Nat} (he : e ≤ 6) (hi : e ≠ 0 → CJ T n (P_readSum X (D + 3) (7 - e)) inn) (hg : e ≠ 0 → PG n inn) : CJ T n (P_readAtom X (D + 4) (6 - e)) (pAtom T n inn e) := by
  intro m Q hm ha hs h
  have hn := hT.1
  have hk := sk_ge T n (m 6 3)
  have hk2 := sk_le (T := T) ha.2
  have hsr := sgn_r hT (a := sk T n (m 6 3)) (by omega)
  have hs' : 0 ≤ m 6 2 ∧ m 6 2 ≤ 241 := by omega
  unfold pAtom at h
  obtain ⟨b, hb⟩ : ∃ b, b = sk T n (m 6 3) := ⟨_, rfl⟩
  rw [← hb] at h hk hk2 hsr
  obtain ⟨c, hc⟩ : ∃ c, c = sgn T n b := ⟨_, rfl⟩
  rw [← hc] at h hsr
  refine P_readAtomw hB hB2 (P_coming_c hB hT hm ha ?_)
  rw [← hb, ← hc]
  refine ⟨by omega, fun z => ?_, fun z => ⟨by omega, fun z2 => ?_, fun z2 => ?_⟩⟩
  · rw [if_neg z] at h
    have e3 : (up m 6 3 b) 6 3 = b := up_same _ _ _ _
    rw [e3]
    refine B_digit_c hB hT hm.at3 (by omega) hk2 (fun hd => ?_) (fun hd => ?_)
    · rw [← hc] at hd
      rw [if_pos hd] at h
      refine ⟨by decide, fun e => absurd e (by decide), fun _ => (P_num_c hB hT).at e3 hm.at3 (by omega) (by rw [up_ne (Or.inr (by decide))]; omega) (fun m' g => ⟨b2i_01 _, h m' ?_⟩)⟩
      exact ⟨((Fr.rf _ m).up (by simp)).tr g.1, g.2.1, g.2.2.1, fun e => (g.2.2.2 e).at3⟩
    · rw [← hc] at hd
      rw [if_neg hd] at h
      refine ⟨by decide, fun _ => ⟨fun zc => ⟨by omega, Z_letter_c hB2 (by omega) ?_⟩, fun zc => ?_⟩, fun e => absurd rfl e⟩
      · have hl := ltO_r c
        refine ⟨by omega, fun z4 => ?_, fun z4 => ?_⟩
        · rw [if_neg (by omega)] at h
          rw [adv6]
          refine P_write_c hB (by decide) (by omega) (by rw [up_ne (Or.inr (by decide))]; exact hs') (fun m1 g1 g2 g3 g4 => ?_)
          rw [up_same] at g2
          rw [up_ne (Or.inr (by decide))] at g4
          exact h m1 ⟨((Fr.rf _ m).up (by simp)).tr g1, g2, g3, fun _ => (g4 (by omega)).at3⟩
        · rw [if_pos (by omega)] at h
          exact h _ (cRes.stop hs')
      · rw [if_pos (by rw [zc]; rfl)] at h
        exact h _ (cRes.stop hs')
  · rw [if_pos z, if_neg (by omega)] at h
    have ez : e ≠ 0 := by omega
    have hz := sgn_nz (T := T) (n := n) (a := b) (by omega)
    have hp := hg ez (b + 1) (by omega) (by omega)
    rw [adv6, show (6 - (e : Int)) + 1 = 7 - e by omega]
    refine (hi ez).at (a := b + 1) (up_same _ _ _ _) hm.at3 (by omega) (by rw [up_ne (Or.inr (by decide))]; omega) (fun m3 g => ?_)
    refine P_thn_c (m := m) hB hT (by decide) (hm.at3.f67 g.1) ⟨((Fr.rf _ m).up (by simp)).tr g.1, g.2.1, g.2.2.1, fun e => (g.2.2.2 e).at3⟩ (by omega) h
  · rw [if_pos z, if_pos (by omega)] at h
    exact h _ (cRes.stop hs')
/-- what follows again and again, by the class -/
theorem C_loop (hB : Bsh X.2.2.1) (hT : TOk T n) {J8 : Int → Int → Option Int → Mm → (Int → Mm → Prop) → Prop} {Jit : Mm → (Int → Mm → Prop) → Prop} {it : Int → Rr} {s1 s2 o1 o2 : Int} {D : Nat} (hit : CJ T n Jit it) (hg : PG n it) (hs12 : s1 ≠ 0 ∧ s2 ≠ 0) (ho : (0 ≤ srt o1 ∧ srt o1 ≤ 13) ∧ (0 ≤ srt o2 ∧ srt o2 ≤ 13))
    (hend : ∀ l2 l3 o4 m Q, (l2 = 0 ∨ l2 = 1) → (0 ≤ l3 ∧ l3 ≤ 240) → (240 ≤ l3 ∨ l2 = 0) → Q l2 m → J8 l2 l3 o4 m Q)
    (hgo : ∀ l3 o4 m Q, (0 ≤ l3 ∧ l3 < 240) → TpC T n m → (0 ≤ m 6 3 ∧ m 6 3 ≤ n) → (¬ (sgn T n (sk T n (m 6 3)) = s1 ∨ sgn T n (sk T n (m 6 3)) = s2) → Q 1 (up m 6 3 (sk T n (m 6 3)))) → ((sgn T n (sk T n (m 6 3)) = s1 ∨ sgn T n (sk T n (m 6 3)) = s2) → Jit (up m 6 3 (sk T n (m 6 3) + 1)) (fun v m1 => ∀ o : Option Int, P_write X D (srt (if sgn T n (sk T n (m 6 3)) = s1 then o1 else o2)) 0 m1 (fun m2 => J8 v (l3 + 1) o m2 Q))) → J8 1 l3 o4 m Q)
    {m0 : Mm} (h0 : 0 ≤ m0 6 2 ∧ m0 6 2 ≤ m0 6 3) : ∀ (k : Nat) (l3 : Int) (o4 : Option Int) (m : Mm) (r : Rr) (Q : Int → Mm → Prop), k ≤ 240 → l3 = 240 - k → cRes m0 m r → PR n (m0 6 3) r → TpC T n m → (∀ m', cRes m0 m' (lpP T n it s1 s2 o1 o2 k r) → Q (b2i (lpP T n it s1 s2 o1 o2 k r).1) m') → J8 (b2i r.1) l3 o4 m Q := by
  have hn := hT.1
  intro k
  induction k with
  | zero =>
    intro l3 o4 m r Q hk hl hc hr hm h
    exact hend _ _ _ _ _ (b2i_01 _) (by omega) (Or.inl (by omega)) (h m hc)
  | succ k ih =>
    intro l3 o4 m r Q hk hl hc hr hm h
    have el : lpP T n it s1 s2 o1 o2 (k + 1) r = if r.1 = false then r else if sgn T n (sk T n r.2.1) = s1 ∨ sgn T n (sk T n r.2.1) = s2 then lpP T n it s1 s2 o1 o2 k ((it (sk T n r.2.1 + 1)).1, (it (sk T n r.2.1 + 1)).2.1, r.2.2 ++ ((it (sk T n r.2.1 + 1)).2.2 ++ [((if sgn T n (sk T n r.2.1) = s1 then o1 else o2), 0)])) else (true, sk T n r.2.1, r.2.2) := rfl
    rw [el] at h
    cases hb : r.1 with
    | false =>
      rw [if_pos hb] at h
      have h := h m hc
      rw [hb] at h
      exact hend _ _ _ _ _ (Or.inl rfl) (by omega) (Or.inr rfl) h
    | true =>
      rw [if_neg (by rw [hb]; decide)] at h
      obtain ⟨c1, c2, c3, c4⟩ := hc
      have c4 := c4 hb
      obtain ⟨r1, r2, r3⟩ := hr
      have r3 := r3 hb
      have hk1 := sk_ge T n r.2.1
      have hk2 := sk_le (T := T) r2
      have e62 : m 6 2 = m0 6 2 + r.2.2.length := by rw [c4.1, enc_len]
      refine hgo l3 o4 m Q (by omega) hm (by omega) (fun z => ?_) (fun z => ?_)
      · rw [c2] at z ⊢
        rw [if_neg z] at h
        exact h _ ⟨c1.up (by simp), up_same _ _ _ _, by rw [up_ne (Or.inr (by decide))]; exact c3, fun _ => c4.end3⟩
      · rw [c2] at z ⊢
        rw [if_pos z] at h
        have hz := sgn_nz (T := T) (n := n) (a := sk T n r.2.1) (by omega)
        have hq := hg (sk T n r.2.1 + 1) (by omega) (by omega)
        refine hit.at (a := sk T n r.2.1 + 1) (up_same _ _ _ _) hm.at3 (by omega) (by rw [up_ne (Or.inr (by decide))]; omega) (fun m1 g o4' => ?_)
        generalize it (sk T n r.2.1 + 1) = q at h hq g ⊢
        obtain ⟨g1, g2, g3, g4⟩ := g
        have ho' : 0 ≤ srt (if sgn T n (sk T n r.2.1) = s1 then o1 else o2) ∧ srt (if sgn T n (sk T n r.2.1) = s1 then o1 else o2) ≤ 13 := by
          split
          · exact ho.1
          · exact ho.2
        generalize (if sgn T n (sk T n r.2.1) = s1 then o1 else o2) = o at h ho' ⊢
        refine P_write_c hB ho' (by decide) g3 (fun m2 w1 w2 w3 w4 => ?_)
        have hf : Fr [6, 7] m m2 := (((Fr.rf _ m).up (by simp)).tr g1).tr w1
        refine ih (l3 + 1) o4' m2 (q.1, q.2.1, r.2.2 ++ (q.2.2 ++ [(o, 0)])) Q (by omega) (by omega) ⟨c1.tr hf, w2.trans g2, w3, fun e => ?_⟩ ⟨by show m0 6 3 ≤ q.2.1; omega, hq.2.1, fun e => ?_⟩ (hm.f67 hf) h
        · have g4 := (g4 e).at3
          have hq2 := hq.2.2 e
          have e1 := g4.1
          rw [enc_len] at e1
          have w4 := w4 (by omega)
          show stC m0 m2 (enc (r.2.2 ++ (q.2.2 ++ [(o, 0)])))
          rw [enc_app, enc_app]
          exact c4.tr (g4.tr w4)
        · have hq2 := hq.2.2 e
          refine ⟨?_, by show m0 6 3 < q.2.1; omega⟩
          show m0 6 3 + ((r.2.2 ++ (q.2.2 ++ [(o, 0)])).length : Int) ≤ q.2.1
          rw [List.length_append, List.length_append, List.length_singleton]
          omega
/-- terms and sums, given what stands within [ ] -/
theorem P_term_c (hB : Bsh X.2.2.1) (hT : TOk T n) {it : Int → Rr} {x : Int} {D : Nat} (hit : CJ T n (P_readAtom X (D + 1) x) it) (hg : PG n it) : CJ T n (P_readTerm X (D + 2) x) (fun a => lpP T n it 42 47 4 5 240 (it a)) := by
  intro m Q hm ha hs h
  have hn := hT.1
  refine P_readTermw hB (hit m _ hm ha hs (fun m1 g => ?_))
  refine C_loop (J8 := fun l2 l3 o4 m Q => P_readTerm_8 X (D + 2) x l2 l3 o4 m Q) (D := D + 1) hB hT hit hg (by decide) (by decide) (fun l2 l3 o4 m Q h1 h2 h3 hq => ?_) (fun l3 o4 m Q h1 h2 h3 hno hyes => ?_) hs 240 0 none m1 (it (m 6 3)) Q (by decide) (by decide) g (hg _ ha.1 ha.2) (hm.f67 g.1) h
  · exact P_readTerm_8w hB ⟨by omega, fun _ => ⟨h1, hq⟩, fun _ => ⟨by omega, fun _ => ⟨h1, hq⟩, fun z => by omega⟩⟩
  · have hr := sgn_r hT (a := sk T n (m 6 3)) (by have := sk_ge T n (m 6 3); omega)
    refine P_readTerm_8w hB ⟨by omega, fun z => by omega, fun _ => ⟨by decide, fun e => absurd e (by decide), fun _ => P_coming_c hB hT h2 h3 ⟨by omega, fun z => P_readTerm_42w hB ?_, fun z => ⟨fun z2 => P_readTerm_42w hB ?_, fun z2 => ⟨Or.inr rfl, hno (by omega)⟩⟩⟩⟩⟩
    · rw [adv6]
      refine Rq.mono (hyes (Or.inl z)) (fun v m1 hw => ⟨by omega, fun e => absurd z e, fun _ => ?_⟩)
      have := hw (some (sgn T n (sk T n (m 6 3))))
      rw [if_pos z] at this
      exact this
    · rw [adv6]
      refine Rq.mono (hyes (Or.inr z2)) (fun v m1 hw => ⟨by omega, fun _ => ?_, fun e => absurd e z⟩)
      have := hw (some (sgn T n (sk T n (m 6 3))))
      rw [if_neg z] at this
      exact this
theorem P_sum_c (hB : Bsh X.2.2.1) (hT : TOk T n) {it : Int → Rr} {x : Int} {D : Nat} (hit : CJ T n (P_readTerm X (D + 1) x) it) (hg : PG n it) : CJ T n (P_readSum X (D + 2) x) (fun a => lpP T n it 43 45 2 3 240 (it a)) := by
  intro m Q hm ha hs h
  have hn := hT.1
  refine P_readSumw hB (hit m _ hm ha hs (fun m1 g => ?_))
  refine C_loop (J8 := fun l2 l3 o4 m Q => P_readSum_8 X (D + 2) x l2 l3 o4 m Q) (D := D + 1) hB hT hit hg (by decide) (by decide) (fun l2 l3 o4 m Q h1 h2 h3 hq => ?_) (fun l3 o4 m Q h1 h2 h3 hno hyes => ?_) hs 240 0 none m1 (it (m 6 3)) Q (by decide) (by decide) g (hg _ ha.1 ha.2) (hm.f67 g.1) h
  · exact P_readSum_8w hB ⟨by omega, fun _ => ⟨h1, hq⟩, fun _ => ⟨by omega, fun _ => ⟨h1, hq⟩, fun z => by omega⟩⟩
  · have hr := sgn_r hT (a := sk T n (m 6 3)) (by have := sk_ge T n (m 6 3); omega)
    refine P_readSum_8w hB ⟨by omega, fun z => by omega, fun _ => ⟨by decide, fun e => absurd e (by decide), fun _ => P_coming_c hB hT h2 h3 ⟨by omega, fun z => P_readSum_42w hB ?_, fun z => ⟨fun z2 => P_readSum_42w hB ?_, fun z2 => ⟨Or.inr rfl, hno (by omega)⟩⟩⟩⟩⟩
    · rw [adv6]
      refine Rq.mono (hyes (Or.inl z)) (fun v m1 hw => ⟨by omega, fun e => absurd z e, fun _ => ?_⟩)
      have := hw (some (sgn T n (sk T n (m 6 3))))
      rw [if_pos z] at this
      exact this
    · rw [adv6]
      refine Rq.mono (hyes (Or.inr z2)) (fun v m1 hw => ⟨by omega, fun _ => ?_, fun e => absurd e z⟩)
      have := hw (some (sgn T n (sk T n (m 6 3))))
      rw [if_neg z] at this
      exact this
theorem P_sumE (hB : Bsh X.2.2.1) (hB2 : X.2.2.1.length ≤ 1000000) (hT : TOk T n) : ∀ (e D : Nat), e ≤ 6 → 3 * e + 6 ≤ D → CJ T n (P_readSum X D (6 - e)) (sumE T n e) := by
  have go : ∀ (e D : Nat) (inn : Int → Rr), e ≤ 6 → (e ≠ 0 → CJ T n (P_readSum X (D + 3) (7 - e)) inn) → (e ≠ 0 → PG n inn) → CJ T n (P_readSum X (D + 6) (6 - e)) (pSum T n inn e) := by
    intro e D inn he hi hg
    exact P_sum_c hB hT (P_term_c hB hT (P_atom_c hB hB2 hT he hi hg) (pAtom_g hg)) (pTerm_g hg)
  intro e
  induction e with
  | zero =>
    intro D he hD
    obtain ⟨D', rfl⟩ : ∃ D', D = D' + 6 := ⟨D - 6, by omega⟩
    exact go 0 D' _ he (fun h => absurd rfl h) (fun h => absurd rfl h)
  | succ e ih =>
    intro D he hD
    obtain ⟨D', rfl⟩ : ∃ D', D = D' + 6 := ⟨D - 6, by omega⟩
    refine go (e + 1) D' (sumE T n e) he (fun _ => ?_) (fun _ => sumE_g T n e)
    have := ih (D' + 3) (by omega) (by omega)
    rw [show (7 : Int) - ((e + 1 : Nat) : Int) = 6 - e by omega]
    exact this
end CLaw2
