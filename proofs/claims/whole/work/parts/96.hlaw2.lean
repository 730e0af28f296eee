/-! ===== the class's law ===== -/
theorem stp_dec {s v : Int} (hs : 0 ≤ s ∧ s ≤ 13) (hv : 0 ≤ v ∧ v < 16384) : iSr (16384 * s + v) 14 = s ∧ iA (16384 * s + v) 16383 = v := by
  have h := iSr_e (x := 16384 * s + v) 14 (by omega) (by omega)
  have e : iSr (16384 * s + v) ((14 : Nat) : Int) = iSr (16384 * s + v) 14 := rfl
  rw [e] at h
  rw [h, iA_16383]
  omega
theorem srt_r (c : Int) : 0 ≤ srt c ∧ srt c ≤ 13 := by
  unfold srt
  repeat' split
  all_goals omega
theorem At1.cg {f f' : Int → Int} : ∀ {a : List Int} {o : Int}, At1 f o a → (∀ j, f' j = f j) → At1 f' o a
  | [], _, _, _ => trivial
  | _ :: _, _, h, e => ⟨by rw [e]; exact h.1, At1.cg h.2 e⟩
section HL2
variable {X : Cx} {d : Nat} {Q : Int → Mm → Prop} {l a ln : Nat}
theorem W_run (hB : Bsh X.2.2.1) (hl : X.2.2.1[l]? = some (.inl (4, [a + 3]))) (ha : X.2.2.1[a]? = some (.inr (.inl (0, ln)))) (hn : ln ≤ 241) (ha2 : 114 ≤ a) {lt : Int → Int} (hlt : ∀ j, 0 ≤ j → j < 6 → -1000000 ≤ lt j ∧ lt j ≤ 1000000) : ∀ (c : Cd) (m : Mm) (ts ts' : List Bool) (s : List Int) (l3 l4 : Int) (o5 o6 o7 o8 : Option Int), tyC c ts = some ts' → TyV ts s → StK (m 20) s → l3 = s.length → 0 ≤ l4 → l4 + c.length ≤ ln → At1 (m a) l4 (enc c) → (∀ j, 0 ≤ j → j < 6 → m 19 j = lt j) → (∀ m' s' o5 o6 o7 o8, s' = evC lt c s → TyV ts' s' → StK (m' 20) s' → Fr [20] m m' → W_worth_5 X (d + 1) l s'.length (l4 + c.length) o5 o6 o7 o8 m' Q) → W_worth_5 X (d + 1) l l3 l4 o5 o6 o7 o8 m Q := by
  intro c
  induction c with
  | nil =>
    intro m ts ts' s l3 l4 o5 o6 o7 o8 hty hs hst h3 h4 h5 hat hlet h
    have e : ts = ts' := by simpa [tyC] using hty
    have := h m s o5 o6 o7 o8 rfl (by rw [← e]; exact hs) hst (Fr.rf _ _)
    rw [h3]
    simpa using this
  | cons p c ih =>
    intro m ts ts' s l3 l4 o5 o6 o7 o8 hty hs hst h3 h4 h5 hat hlet h
    obtain ⟨k, v⟩ := p
    have hlen : ((((k, v) :: c : Cd).length : Nat) : Int) = c.length + 1 := by simp
    rw [hlen] at h5
    have e0 : m a l4 = 16384 * srt k + v := hat.1
    have hat2 : At1 (m a) (l4 + 1) (enc c) := hat.2
    obtain ⟨hs20, hc⟩ := ty_cases hty hs
    have hnext : ∀ (m' : Mm) (ts1 : List Bool) (s1 : List Int) (o5 o6 o7 o8 : Option Int), tyC c ts1 = some ts' → TyV ts1 s1 → StK (m' 20) s1 → Fr [20] m m' → evC lt c s1 = evC lt ((k, v) :: c) s → W_worth_5 X (d + 1) l s1.length (l4 + 1) o5 o6 o7 o8 m' Q := by
      intro m' ts1 s1 o5 o6 o7 o8 q1 q2 q3 q4 q5
      have e1 : m' a = m a := q4 a (by simp; omega)
      have e19 : m' 19 = m 19 := q4 19 (by decide)
      refine ih m' ts1 ts' s1 s1.length (l4 + 1) o5 o6 o7 o8 q1 q2 q3 rfl (by omega) (by omega) (by rw [e1]; exact hat2) (by rw [e19]; exact hlet) (fun m2 s2 p5 p6 p7 p8 w1 w2 w3 w4 => ?_)
      have e : l4 + ((((k, v) :: c : Cd).length : Nat) : Int) = l4 + 1 + c.length := by rw [hlen]; omega
      have := h m2 s2 p5 p6 p7 p8 (w1.trans q5) w2 w3 (q4.tr w4)
      rw [e] at this
      exact this
    rcases hc with ⟨rfl, hv, hty2⟩ | ⟨rfl, hv, hty2⟩ | ⟨rfl, rfl, x, t, s', rfl, hx, ht, hty2⟩ | ⟨rfl, x, y, t, s', u, rfl, ht, hty2, hx, hy, hty3, hk⟩
    · obtain ⟨d1, d2⟩ := stp_dec (s := srt 0) (v := v) (srt_r 0) (by omega)
      have d0 : srt 0 = 0 := rfl
      rw [← e0] at d1 d2
      refine W_worth_5w hB hl ha (by omega) ⟨by omega, by omega, fun z => by omega, fun z => ⟨by omega, ?_⟩⟩
      rw [d1, d2, d0]
      refine ⟨fun z => absurd z (by decide), fun _ => ⟨by omega, fun z => by omega, fun z => ⟨fun z1 => ?_, fun z1 => absurd z1 (by decide)⟩⟩⟩
      refine W_worth_67w hB hl ha (by omega) ⟨by decide, fun z => absurd rfl z, fun _ => ⟨by omega, ?_⟩⟩
      rw [h3]
      refine hnext _ _ (v :: s) _ _ _ _ hty2 ⟨by simp; omega, hs⟩ ⟨up_same _ _ _ _, hst.cg (fun j h1 h2 => up_ne (Or.inr (by omega)))⟩ ((Fr.rf _ _).up (by simp)) ev0.symm
    · obtain ⟨d1, d2⟩ := stp_dec (s := srt 1) (v := v) (srt_r 1) (by omega)
      have d0 : srt 1 = 1 := rfl
      rw [← e0] at d1 d2
      refine W_worth_5w hB hl ha (by omega) ⟨by omega, by omega, fun z => by omega, fun z => ⟨by omega, ?_⟩⟩
      rw [d1, d2, d0]
      refine ⟨fun z => absurd z (by decide), fun _ => ⟨by omega, fun z => by omega, fun z => ⟨fun z1 => absurd rfl z1, fun z1 => ⟨fun z2 => ?_, fun z2 => by omega⟩⟩⟩⟩
      refine W_worth_67w hB hl ha (by omega) ⟨by decide, fun _ => ⟨by omega, by omega, ?_⟩, fun z => absurd z (by decide)⟩
      rw [h3, hlet v (by omega) (by omega)]
      refine hnext _ _ (lt v :: s) _ _ _ _ hty2 ⟨by simpa using hlt v (by omega) (by omega), hs⟩ ⟨up_same _ _ _ _, hst.cg (fun j h1 h2 => up_ne (Or.inr (by omega)))⟩ ((Fr.rf _ _).up (by simp)) ev1.symm
    · obtain ⟨d1, d2⟩ := stp_dec (s := srt 9) (v := 0) (srt_r 9) (by omega)
      have d0 : srt 9 = 4 := rfl
      rw [← e0] at d1 d2
      have hl3 : l3 = (s'.length : Int) + 1 := by rw [h3]; simp
      have hl20 : s'.length + 1 < 20 := by simpa using hs20
      have e31 : l3 - 1 = s'.length := by omega
      refine W_worth_5w hB hl ha (by omega) ⟨by omega, by omega, fun z => by omega, fun z => ⟨by omega, ?_⟩⟩
      rw [d1, d2, d0]
      refine ⟨fun _ => ⟨by omega, fun z => by omega, fun z => ⟨fun _ => ?_, fun z1 => absurd z1 (by decide)⟩⟩, fun z => absurd z (by decide)⟩
      refine W_worth_108w hB hl ha (by omega) ⟨by omega, by decide, fun _ => ⟨fun _ => ⟨fun z => absurd rfl z, fun _ => ?_⟩, fun z => absurd z (by decide)⟩, fun z => absurd z (by decide)⟩
      rw [e31, hst.1]
      have := hnext (up m 20 s'.length (-x + 1)) _ ((1 - x) :: s') (some 4) (some 0) (some x) o8 hty2 ⟨by simp; omega, ht⟩ ⟨by rw [up_same]; omega, hst.2.cg (fun j h1 h2 => up_ne (Or.inr (by omega)))⟩ ((Fr.rf _ _).up (by simp)) ev9.symm
      have e2 : (((1 - x) :: s').length : Int) = l3 := by rw [hl3]; simp
      rw [e2] at this
      exact this
    · have hkk : k ≠ 0 ∧ k ≠ 1 ∧ k ≠ 9 := by omega
      obtain ⟨d1, d2⟩ := stp_dec (s := srt k) (v := 0) (srt_r k) (by omega)
      have d0 : 5 ≤ srt k ∧ srt k ≤ 13 := by
        refine ⟨?_, (srt_r k).2⟩
        unfold srt
        rw [if_neg hkk.1, if_neg hkk.2.1, if_neg hkk.2.2]
        repeat' split
        all_goals omega
      rw [← e0] at d1 d2
      have hl3 : l3 = (s'.length : Int) + 2 := by rw [h3]; simp; omega
      have hl20 : s'.length + 1 + 1 < 20 := by simpa using hs20
      have e31 : l3 - 1 = s'.length + 1 := by omega
      have e32 : l3 - 2 = s'.length := by omega
      have ey : m 20 (l3 - 1) = y := by rw [e31]; simpa using hst.1
      have ex : m 20 (l3 - 2) = x := by rw [e32]; exact hst.2.1
      refine W_worth_5w hB hl ha (by omega) ⟨by omega, by omega, fun z => by omega, fun z => ⟨by omega, ?_⟩⟩
      rw [d1, d2]
      refine ⟨fun _ => ⟨by omega, fun z => by omega, fun z => ⟨fun _ => by omega, fun _ => ⟨fun _ => ?_, fun z1 => by omega⟩⟩⟩, fun z => by omega⟩
      refine W_worth_108w hB hl ha (by omega) ⟨by omega, by omega, fun _ => ⟨fun _ => ⟨fun _ => ?_, fun z => by omega⟩, fun z => by omega⟩, fun z => by omega⟩
      rw [ey, ex]
      refine ⟨by omega, by omega, by omega, W_joined_c hB hx hy hk (fun v w1 w2 => ?_)⟩
      have hb : bnd v = opv k x y := w1
      have go : ∀ v', v' = bnd v → W_worth_5 X (d + 1) l (l3 - 1) (l4 + 1) (some (srt k)) (some 0) (some y) (some v) (up m 20 (l3 - 2) v') Q := by
        intro v' hv'
        rw [e31, e32]
        have := hnext (up m 20 s'.length v') (u :: t) (opv k x y :: s') (some (srt k)) (some 0) (some y) (some v) hty2 hty3 ⟨by rw [up_same, hv', hb], hst.2.2.cg (fun j h1 h2 => up_ne (Or.inr (by omega)))⟩ ((Fr.rf _ _).up (by simp)) (evj hkk.1 hkk.2.1 hkk.2.2).symm
        have e2 : ((opv k x y :: s').length : Int) = s'.length + 1 := by simp
        rw [e2] at this
        exact this
      refine ⟨by omega, fun z1 => ⟨fun z2 => go v ?_, fun z2 => go _ ?_⟩, fun z1 => go _ ?_⟩
      · unfold bnd
        split at z1
        · omega
        · split at z2
          · split at z1 <;> omega
          · split at z2 <;> omega
      · unfold bnd
        split at z2
        · omega
        · split at z2 <;> omega
      · unfold bnd
        split at z1
        · omega
        · split at z1 <;> omega
theorem W_law (hB : Bsh X.2.2.1) (hl : X.2.2.1[l]? = some (.inl (4, [a + 3]))) (ha : X.2.2.1[a]? = some (.inr (.inl (0, ln)))) (hn : ln ≤ 241) (ha2 : 114 ≤ a) {lt : Int → Int} (hlt : ∀ j, 0 ≤ j → j < 6 → -1000000 ≤ lt j ∧ lt j ≤ 1000000) : ∀ (L : Lw) (m : Mm) (o : Int) (o5 o6 o7 o8 : Option Int), (∀ c ∈ L, clsOk c) → 0 ≤ o → o + (stpL L o).length = ln → At1 (m a) o (stpL L o) → (∀ j, 0 ≤ j → j < 6 → m 19 j = lt j) → (∀ m', (-1000000 ≤ evL lt L ∧ evL lt L ≤ 1000000) → Fr [20] m m' → Q (evL lt L) m') → W_worth_5 X (d + 1) l 0 o o5 o6 o7 o8 m Q := by
  intro L
  induction L with
  | nil =>
    intro m o o5 o6 o7 o8 hc ho hln hat hlet h
    have e : o = ln := by simpa [stpL] using hln
    exact W_worth_5w hB hl ha (by omega) ⟨by omega, by omega, fun _ => h m (by show -1000000 ≤ (0 : Int) ∧ (0 : Int) ≤ 1000000; omega) (Fr.rf _ _), fun z => by omega⟩
  | cons p L ih =>
    intro m o o5 o6 o7 o8 hc ho hln hat hlet h
    obtain ⟨t, s⟩ := p
    have hcl := hc (t, s) (by simp)
    have hst : tyC s [] = some [false] := hcl.2
    have len1 : ∀ c : Cd, ((enc c).length : Int) = c.length := fun c => by unfold enc; simp
    -- a say from a place on
    have say : ∀ (m1 : Mm) (o1 : Int) (q5 q6 q7 q8 : Option Int), 0 ≤ o1 → o1 + s.length + 1 ≤ ln → At1 (m1 a) o1 (enc s ++ [32768]) → Fr [20] m m1 → (t = [] ∨ evT lt t ≠ 0) → W_worth_5 X (d + 1) l 0 o1 q5 q6 q7 q8 m1 Q := by
      intro m1 o1 q5 q6 q7 q8 g0 g1 g2 g3 g4
      obtain ⟨g5, g6⟩ := g2.ap
      have e19 : m1 19 = m 19 := g3 19 (by decide)
      refine W_run hB hl ha hn ha2 hlt s m1 [] [false] [] 0 o1 q5 q6 q7 q8 hst trivial trivial rfl g0 (by omega) g5 (by rw [e19]; exact hlet) (fun m2 s2 p5 p6 p7 p8 w1 w2 w3 w4 => ?_)
      match s2, w2 with
      | [v], w2 =>
        have hv : -1000000 ≤ v ∧ v ≤ 1000000 := by simpa using w2.1
        have ev : evT lt s = v := by unfold evT; rw [← w1]; rfl
        have eL : evL lt ((t, s) :: L) = v := by
          conv => lhs; unfold evL
          rw [if_pos g4, ev]
        have e0 : m2 20 0 = v := by simpa using w3.1
        have ea : m2 a = m1 a := w4 a (by simp; omega)
        have e2 : m2 a (o1 + s.length) = 16384 * 2 + 0 := by
          rw [ea]
          have := g6.1
          rw [len1] at this
          exact this
        obtain ⟨d1, d2⟩ := stp_dec (s := 2) (v := 0) (by omega) (by omega)
        rw [← e2] at d1 d2
        show W_worth_5 X (d + 1) l 1 (o1 + s.length) p5 p6 p7 p8 m2 Q
        refine W_worth_5w hB hl ha (by omega) ⟨by omega, by omega, fun z => by omega, fun z => ⟨by omega, ?_⟩⟩
        rw [d1, d2]
        refine ⟨fun _ => ⟨by omega, fun z => by omega, fun z => ⟨fun _ => ?_, fun z1 => absurd z1 (by decide)⟩⟩, fun z => absurd z (by decide)⟩
        refine W_worth_108w hB hl ha (by omega) ⟨by omega, by decide, fun z => absurd rfl z, fun _ => ?_⟩
        show Q (m2 20 0) m2
        rw [e0, ← eL]
        exact h m2 (by rw [eL]; exact hv) (g3.tr w4)
    by_cases zt : t = []
    · subst zt
      have es : stpL (([], s) :: L) o = enc s ++ [32768] ++ stpL L (o + s.length + 1) := by
        conv => lhs; unfold stpL
        rw [if_pos rfl]
      rw [es] at hln hat
      have hlen : ((enc s ++ [32768] ++ stpL L (o + s.length + 1)).length : Int) = s.length + 1 + (stpL L (o + s.length + 1)).length := by
        have := len1 s
        simp at this ⊢
        omega
      rw [hlen] at hln
      exact say m o o5 o6 o7 o8 ho (by omega) hat.ap.1 (Fr.rf _ _) (Or.inl rfl)
    · have htt : tyC t [] = some [true] := hcl.1.resolve_left zt
      obtain ⟨J, hJ⟩ : ∃ J, J = o + t.length + 1 + s.length + 1 := ⟨_, rfl⟩
      have es : stpL ((t, s) :: L) o = enc t ++ ([49152 + J] ++ ((enc s ++ [32768]) ++ stpL L J)) := by
        conv => lhs; unfold stpL
        rw [if_neg zt, ← hJ]
        simp
      rw [es] at hln hat
      have hlen : ((enc t ++ ([49152 + J] ++ ((enc s ++ [32768]) ++ stpL L J))).length : Int) = t.length + 1 + (s.length + 1) + (stpL L J).length := by
        have h1 := len1 s
        have h2 := len1 t
        simp at h1 h2 ⊢
        omega
      rw [hlen] at hln
      obtain ⟨g1, g2⟩ := hat.ap
      rw [len1] at g2
      have g3 : m a (o + t.length) = 49152 + J := g2.1
      have g4 : At1 (m a) (o + t.length + 1) ((enc s ++ [32768]) ++ stpL L J) := g2.2
      obtain ⟨g5, g6⟩ := g4.ap
      have e6 : o + t.length + 1 + ((enc s ++ [32768]).length : Int) = J := by
        have h1 := len1 s
        simp at h1 ⊢
        omega
      rw [e6] at g6
      refine W_run hB hl ha hn ha2 hlt t m [] [true] [] 0 o o5 o6 o7 o8 htt trivial trivial rfl ho (by omega) g1 hlet (fun m2 s2 p5 p6 p7 p8 w1 w2 w3 w4 => ?_)
      match s2, w2 with
      | [v], w2 =>
        have hv : v = 0 ∨ v = 1 := by simpa using w2.1
        have ev : evT lt t = v := by unfold evT; rw [← w1]; rfl
        have e0 : m2 20 0 = v := by simpa using w3.1
        have ea : m2 a = m a := w4 a (by simp; omega)
        have e19 : m2 19 = m 19 := w4 19 (by decide)
        have e2 : m2 a (o + t.length) = 16384 * 3 + J := by rw [ea, g3]; omega
        obtain ⟨d1, d2⟩ := stp_dec (s := 3) (v := J) (by omega) (by omega)
        rw [← e2] at d1 d2
        show W_worth_5 X (d + 1) l 1 (o + t.length) p5 p6 p7 p8 m2 Q
        refine W_worth_5w hB hl ha (by omega) ⟨by omega, by omega, fun z => by omega, fun z => ⟨by omega, ?_⟩⟩
        rw [d1, d2]
        refine ⟨fun _ => ⟨by omega, fun z => by omega, fun z => ⟨fun _ => ?_, fun z1 => absurd z1 (by decide)⟩⟩, fun z => absurd z (by decide)⟩
        refine W_worth_108w hB hl ha (by omega) ⟨by omega, by decide, fun _ => ⟨fun z => absurd rfl z, fun _ => ?_⟩, fun z => absurd z (by decide)⟩
        show (-2147483648 ≤ (m2 20 0) ∧ (m2 20 0) < 2147483648) ∧ (m2 20 0 ≠ 0 → W_worth_5 X (d + 1) l 0 (o + t.length + 1) (some 3) (some J) (some (m2 20 0)) p8 m2 Q) ∧ (m2 20 0 = 0 → (-2147483648 ≤ J ∧ J < 2147483648) ∧ (-2147483648 ≤ (o + (t.length : Int)) ∧ (o + (t.length : Int)) < 2147483648) ∧ (J ≤ o + t.length → W_worth_5 X (d + 1) l 0 (o + t.length + 1) (some 3) (some J) (some (m2 20 0)) p8 m2 Q) ∧ (o + t.length < J → W_worth_5 X (d + 1) l 0 J (some 3) (some J) (some (m2 20 0)) p8 m2 Q))
        rw [e0]
        refine ⟨by omega, fun z1 => say m2 _ _ _ _ _ (by omega) (by omega) (by rw [ea]; exact g5) w4 (Or.inr (by rw [ev]; exact z1)), fun z1 => ⟨by omega, by omega, fun z2 => by omega, fun _ => ?_⟩⟩
        have eL : evL lt ((t, s) :: L) = evL lt L := by
          conv => lhs; unfold evL
          rw [if_neg (by rw [ev]; simp [zt, z1])]
        rw [eL] at h
        exact ih m2 J _ _ _ _ (fun c hc' => hc c (by simp [hc'])) (by omega) (by omega) (by rw [ea]; exact g6) (by rw [e19]; exact hlet) (fun m' k0 k1 => h m' k0 (w4.tr k1))
end HL2
