/-! ===== odds: the reference ===== -/
section Odds3
variable {X : Cx} {d : Nat} {m : Mm} {A : Ab} {t : Int} {Q : Int → Mm → Prop} {c : Nat} {K : Kn} {B q : Int → Int} {pf : Pf}
theorem M_odds_15_c (hB : Bsh X.2.2.1) {m0 : Mm} (hI : MI X m0 K B pf q) (hp : 0 < kNm K) {k x y u s : Int} (hx : 0 ≤ x ∧ x ≤ 2) : ∀ (f : Nat) (m : Mm) (l5 : Int), 0 ≤ l5 → kNm K - l5 = f → TrM m0 m → (∀ j, 0 ≤ j → j < kNm K → m 111 j = flp q s j) → (∀ j, m 101 j = if 0 ≤ j ∧ j < l5 then flp q s j else q j) → m 111 = m0 111 → (∀ m', SmM m0 m' → m' 111 = m0 111 → Q (GOd K B pf q x s u) m') → M_oddsFrom_15 X (d + 10) k x y u l5 m Q := by
  obtain ⟨b1, b2, b3⟩ := hI.2.2.2.2 hp
  have hn := hI.2.2.2.1
  have ew := hI.w
  intro f
  induction f with
  | zero =>
    intro m l5 hl hf hT h111 h1 e111 h
    have hv := b1.trm hT
    have e28 : m 83 28 = kNm K := by rw [← hv.1]; rfl
    have q1 : m 101 = leanS q (kNm K) (flp q s) := by
      funext j
      rw [h1 j]
      unfold leanS
      have e : l5 = kNm K := by omega
      rw [e]
    have hQ := flp_ok (s := s) b3 hn.2
    refine M_oddsFrom_15w hB ⟨by omega, by omega, fun _ => M_layEnd_c hB b1 hT (by rw [ew]; exact b2.w) (by rw [q1]; exact hQ) (fun m3 s1 s2 s3 s4 _ s6 => ?_), fun z => by omega⟩
    have k3 := (b1.sm s1).1
    have e98 : m3 98 0 = kR K 0 := by rw [← k3]; rfl
    have hw := b1.2.2.1.2.2.1
    rw [q1, ew] at s2
    have hcl := (end_ok (wt := wtB B) (pf := pf) b1.2.2.1 hQ).col b1.2.2.1
    have hr := sideA_r K (endA K (wtB B) pf (leanS q (kNm K) (flp q s)) 22)
    refine M_sideOf_c hB (by omega) (by omega) ?_
    rw [k3, s2]
    have h := h m3 s1 ((s6 111 (by decide)).trans e111)
    unfold GOd sdBy at h
    refine ⟨by omega, by omega, fun z => ?_, fun z => ?_⟩
    · rw [if_neg z] at h; exact h
    · rw [if_pos z] at h; exact h
  | succ f ih =>
    intro m l5 hl hf hT h111 h1 e111 h
    have hv := b1.trm hT
    have e28 : m 83 28 = kNm K := by rw [← hv.1]; rfl
    refine M_oddsFrom_15w hB ⟨by omega, by omega, fun z => by omega, fun _ => ⟨by omega, by omega, ih _ (l5 + 1) (by omega) (by omega) (hT.set (by omega)) (by rw [up_off (by decide)]; exact h111) (fun j => ?_) (by rw [up_off (by decide)]; exact e111) h⟩⟩
    rw [up_at, h111 l5 hl (by omega)]
    by_cases z : j = l5
    · rw [if_pos z, if_pos (by omega), z]
    · rw [if_neg z, h1 j]
      by_cases z2 : 0 ≤ j ∧ j < l5
      · rw [if_pos z2, if_pos (by omega)]
      · rw [if_neg z2, if_neg (by omega)]
theorem M_oddsFrom_c (hB : Bsh X.2.2.1) (hp : 0 < kNm K) {x y E : Int} (hx : 0 ≤ x ∧ x ≤ 2) (hy : 0 ≤ y ∧ y ≤ 100) (hE : ∀ k : Nat, (k : Int) < kNm K → (bit E k = 1 ↔ bit (q 18) k = 0 ∧ q k ≠ 1)) : ∀ (f k : Nat) (m : Mm) (u : Int) (s : Nat) (Q : Int → Mm → Prop), MI X m K B pf q → kNm K - k = f → s < 2 ^ k → (0 ≤ u ∧ u ≤ 1000000000) → (∀ j : Int, 0 ≤ j → j < (k : Int) → m 111 j = flp q s j) → (∀ m', SmM m m' → (∀ j : Int, 0 ≤ j → j < (k : Int) → m' 111 j = m 111 j) → Q (odR y E (GOd K B pf q x) f k u s) m') → M_oddsFrom X (d + f + 11) k x y u m Q := by
  intro f
  induction f with
  | zero =>
    intro k m u s Q hI hf hs hu h111 h
    have e28 := hI.n
    have hn := hI.2.2.2.1
    refine M_oddsFromw hB ⟨by omega, by omega, fun z => by omega, fun _ => M_putAside_t hB (fun m1 t1 t2 t3 _ t5 => ?_)⟩
    refine M_odds_15_c hB hI hp (s := s) hx (kNm K).toNat m1 0 (by decide) (by omega) t1 (fun j g1 g2 => by rw [t5 111 (by decide)]; exact h111 j g1 (by omega)) (fun j => by rw [if_neg (by omega), t2, hI.2.2.1]) (t5 111 (by decide)) (fun m' g1 g2 => h m' g1 (fun j _ _ => by rw [g2]))
  | succ f ih =>
    intro k m u s Q hI hf hs hu h111 h
    have e28 := hI.n
    have hn := hI.2.2.2.1
    obtain ⟨b1, b2, b3⟩ := hI.2.2.2.2 hp
    have hq := (b3.1 k (by omega) (by omega)).1
    have e101 : m 101 = q := hI.2.2.1
    have e1 : ((k : Int) + 1) = ((k + 1 : Nat) : Int) := by omega
    obtain ⟨c0, c1, c2⟩ := bit_hi (j := k) (s := s) (by omega) hs
    have hs2 : s < 2 ^ (k + 1) := by rw [Nat.pow_succ]; omega
    have hs3 : 2 ^ k + s < 2 ^ (k + 1) := by rw [Nat.pow_succ]; omega
    have hd := dvP_r hy hu
    have sm1 : ∀ (m2 : Mm) (v : Int), SmM m2 (up m2 111 k v) := fun m2 v => ⟨fun j _ => by rw [up_ne (Or.inl (by decide))], (Fr.rf _ _).up (by simp)⟩
    obtain ⟨m1, hm1⟩ : ∃ m1, m1 = up m 111 k (q k) := ⟨_, rfl⟩
    have s1 : SmM m m1 := by rw [hm1]; exact sm1 m _
    have hI1 := hI.sm s1
    have e111k : m1 111 k = q k := by rw [hm1]; exact up_same _ _ _ _
    have e111 : ∀ j : Int, 0 ≤ j → j < (k : Int) → m1 111 j = m 111 j := fun j g1 g2 => by rw [hm1, up_ne (Or.inr (by omega))]
    have h1 : ∀ j : Int, 0 ≤ j → j < ((k + 1 : Nat) : Int) → m1 111 j = flp q s j := by
      intro j g1 g2
      by_cases z : j = k
      · rw [z, e111k]
        unfold flp
        rw [if_neg (by rw [c0]; decide)]
      · rw [e111 j g1 (by omega)]
        exact h111 j g1 (by omega)
    have eo : odR y E (GOd K B pf q x) (f + 1) k u s = if bit E k = 1 then odR y E (GOd K B pf q x) f (k + 1) (u - dvP y u) s + odR y E (GOd K B pf q x) f (k + 1) (dvP y u) (((2 ^ k : Nat) : Int) + s) else odR y E (GOd K B pf q x) f (k + 1) u s := rfl
    have no : ¬ bit E k = 1 → M_oddsFrom_101 X (d + f + 11 + 1) k x y u m1 Q := by
      intro z
      refine M_oddsFrom_101w hB ?_
      rw [e1]
      refine ih (k + 1) m1 u s _ hI1 (by omega) hs2 hu h1 (fun m' g1 g2 => ?_)
      have := h m' (s1.tr g1) (fun j w1 w2 => by rw [g2 j w1 (by omega)]; exact e111 j w1 w2)
      rw [eo, if_neg z] at this
      exact this
    have hiff := hE k (by omega)
    have e18 : m1 101 18 = q 18 := by rw [hI1.2.2.1]
    refine M_oddsFromw hB ⟨by omega, by omega, fun _ => ⟨by omega, by omega, ?_⟩, fun z => by omega⟩
    rw [e101, ← hm1]
    refine M_isOn_c hB (fun z => q1e ⟨by omega, fun z2 => ⟨by omega, by omega, ?_⟩, fun z2 => no ?_⟩) (fun z => q0e (no ?_))
    · have zE : bit E k = 1 := hiff.mpr ⟨by rw [← e18]; exact z, by rw [← e111k]; exact z2⟩
      rw [e1]
      show M_oddsFrom X (d + f + 11) ((k + 1 : Nat) : Int) x y (u - dvP y u) m1 _
      refine ih (k + 1) m1 (u - dvP y u) s _ hI1 (by omega) hs2 (by omega) h1 (fun m2 g1 g2 => ?_)
      have hI2 := hI1.sm g1
      have e2k : m2 101 k = q k := by rw [hI2.2.2.1]
      have s2 := sm1 m2 (-m2 101 k + 2)
      show M_oddsFrom X (d + f + 11) ((k + 1 : Nat) : Int) x y (dvP y u) (up m2 111 k (-m2 101 k + 2)) _
      refine ih (k + 1) _ (dvP y u) (2 ^ k + s) _ (hI2.sm s2) (by omega) hs3 (by omega) (fun j w1 w2 => ?_) (fun m3 g3 g4 => ?_)
      · rw [up_at, e2k]
        by_cases zj : j = k
        · rw [if_pos zj, zj]
          unfold flp
          rw [if_pos c1]
          omega
        · rw [if_neg zj, g2 j w1 w2, h1 j w1 w2]
          obtain ⟨i, rfl⟩ : ∃ i : Nat, j = (i : Int) := ⟨j.toNat, by omega⟩
          unfold flp
          rw [c2 i (by omega) (by omega)]
      · have := h m3 (((s1.tr g1).tr s2).tr g3) (fun j w1 w2 => by rw [g4 j w1 (by omega), up_ne (Or.inr (by omega)), g2 j w1 (by omega)]; exact e111 j w1 w2)
        rw [eo, if_pos zE] at this
        have ec : ((2 ^ k + s : Nat) : Int) = ((2 ^ k : Nat) : Int) + s := by omega
        rw [ec]
        exact this
    · exact fun e => (hiff.mp e).2 (by rw [← e111k]; exact z2)
    · exact fun e => by have := (hiff.mp e).1; rw [← e18] at this; omega
theorem op_odds (hH : HLaw) (hB : Bsh X.2.2.1) (hI : InvA X m A t) {x y : Int} (hx : R3 x) (hy : R3 y) : Bth X A t (V_odds X (d + 20) x y) (M_odds X (d + 20) x y) m := by
  refine bth_ro (F := if kNm (abK A) = 0 ∨ x < 0 ∨ 2 < x ∨ y < 0 ∨ 100 < y then -1 else odR y (erA (abK A) (abQ A)) (GOd (abK A) (abB A) (abP A) (abQ A) x) (kNm (abK A)).toNat 0 1000000000 0) hH hB hI (fun c Q hc h => ?_) (fun m1 Q hc h => ?_)
  · have hn := hc.mem
    have hn2 := hc.2.2.2.2.1
    have h4 := hc.2.2.2.1
    have no : (kNm (abK A) = 0 ∨ x < 0 ∨ 2 < x ∨ y < 0 ∨ 100 < y) → Q (-1) m := fun e => by
      have := h m (SmC.rf m)
      rw [if_pos e] at this
      exact this
    refine V_oddsw hB (V_hasCanton_c hB hc.1 hc.2.1 hn (fun hp => q1e (V_isSide_c hB hx (fun z1 z2 => q1e ⟨hy, fun e => no (by omega), fun z3 => ⟨fun z4 => ?_, fun e => no (by omega)⟩⟩) (fun e => q0e (no (by omega))))) (fun e => q0e (no (by omega))))
    obtain ⟨v1, v2, v3, v4, v5⟩ := hc.2.2.2.2.2 (by omega)
    obtain ⟨eo, -⟩ := erA_ok v1.2.2.2.2.1 v3
    have h64 : (2 : Int) ^ (kNm (abK A)).toNat ≤ 64 := (by decide : ∀ n : Nat, n ≤ 6 → (2 : Int) ^ n ≤ 64) _ (by omega)
    refine O_partsEndingw hB (O_moderates_c hB hc (by omega) ?_)
    rw [v4.2.1]
    refine O_parts_20_c hB hc (by omega) ⟨z1, z2⟩ ⟨z3, z4⟩ (E := erA (abK A) (abQ A)) (by omega) (erA (abK A) (abQ A) + 1).toNat m 0 0 none none (by omega) (SmC.rf m) rfl (fun m' g1 => ?_)
    have := h m' g1
    rw [if_neg (by omega), od_main (by omega) eo] at this
    exact this
  · have hn := hc.2.2.2.1
    have e28 := hc.n
    have no : (kNm (abK A) = 0 ∨ x < 0 ∨ 2 < x ∨ y < 0 ∨ 100 < y) → Q (-1) m1 := fun e => by
      have := h m1 (SmM.rf m1)
      rw [if_pos e] at this
      exact this
    refine M_oddsw hB ⟨by omega, fun z => no (by omega), fun z => M_in_c hx (by decide) (by decide) (fun z1 z2 => q1e (M_in_c hy (by decide) (by decide) (fun z3 z4 => q1e ?_) (fun e => q0e (no (by omega))))) (fun e => q0e (no (by omega)))⟩
    obtain ⟨v1, v2, v3⟩ := hc.2.2.2.2 (by omega)
    obtain ⟨-, ei⟩ := erA_ok v1.2.2.1 v3
    obtain ⟨d', hd'⟩ : ∃ d', d + 19 = d' + (kNm (abK A)).toNat + 11 := ⟨d + 8 - (kNm (abK A)).toNat, by omega⟩
    rw [hd']
    refine M_oddsFrom_c hB (by omega) ⟨z1, z2⟩ ⟨z3, z4⟩ ei (kNm (abK A)).toNat 0 m1 1000000000 0 _ hc (by omega) (by decide) (by decide) (fun j g1 g2 => by omega) (fun m' g1 g2 => ?_)
    have := h m' g1
    rw [if_neg (by omega)] at this
    exact this
end Odds3
