/-! ===== both sides together; calls that only look ===== -/
def Bth (X : Cx) (A : Ab) (t : Int) (V M : Mm → (Int → Mm → Prop) → Prop) (m : Mm) : Prop := V m (fun v m1 => M m1 (fun v' m2 => v' = v ∧ CW X m2 A (t + 1) ∧ MW m2 A))
/-- what holds at a call -/
def InvA (X : Cx) (m : Mm) (A : Ab) (t : Int) : Prop := CW X m A t ∧ MW m A ∧ AOk A t
theorem CR.cg {m m' : Mm} {K : Kn} {B q : Int → Int} {AL : List (Int → Int)} {r : Int} (h : CR m K B q AL r) (h17 : m' 17 = m 17) (h21 : m' 21 0 = m 21 0) (h21' : m' 21 4 = m 21 4) (h22 : m' 22 = m 22) (h23 : m' 23 = m 23) (hs : ∀ a, 26 ≤ a → a ≤ 65 → m' a = m a) : CR m' K B q AL r := by
  obtain ⟨e1, e2, e3, e4, e5, e6, e7, e8⟩ := h
  unfold CR lgs
  rw [h17, h21, h21', h22, h23]
  refine ⟨e1, e2, e3, e4, e5, e6, fun i hi => ?_, fun i j h1 h2 => ?_⟩
  · have := slot_r (m 21 4) AL.length i
    rw [hs _ (by omega) (by omega)]
    exact e7 i hi
  · have s1 := slot_r (m 21 4) AL.length i
    have s2 := slot_r (m 21 4) AL.length j
    rw [hs (slotN (m 21 4) AL.length i) (by omega) (by omega), hs (slotN (m 21 4) AL.length j) (by omega) (by omega)]
    exact e8 i j h1 h2
theorem CIm.cg {m m' : Mm} {K : Kn} {B : Int → Int} {o : Option (Int → Int)} (h : CIm m K B o) (h21 : m' 21 1 = m 21 1) (h24 : m' 24 = m 24) (h25 : m' 25 = m 25) : CIm m' K B o := by
  unfold CIm at h ⊢
  rw [h21, h24, h25]
  exact h
section Glue
variable {X : Cx} {d : Nat} {m : Mm} {A A' : Ab} {t : Int} {Q : Int → Mm → Prop}
theorem bth_of {V M : Mm → (Int → Mm → Prop) → Prop} {F : Int} (hI : InvA X m A t) (hV : ∀ Q : Int → Mm → Prop, (∀ m', CW X m' A' (t + 1) → hiS m m' → Q F m') → V m Q) (hM : ∀ (m1 : Mm) (Q : Int → Mm → Prop), MW m1 A → (∀ m', MW m' A' → loS m1 m' → Q F m') → M m1 Q) : Bth X A' t V M m := by
  refine hV _ (fun m1 g1 g2 => hM m1 _ (hI.2.1.hi g2) (fun m2 g3 g4 => ⟨rfl, g1.lo g4, g3⟩))
theorem CW.smc {m' : Mm} (h : CW X m A t) (hs : SmC m m') : CW X m' A t := by
  obtain ⟨a1, ⟨c, c2, b1, b2, b3, b4, b5, b6, b7, b8⟩, a3, a4, a5, a6, a7, a8, a9⟩ := h
  obtain ⟨s1, s2, s3⟩ := hs
  have f : ∀ a, a ∉ [18, 19, 20, 66, 67, 68, 69, 70, 71, 72, 74, 75, 76, 80, 81] → m' a = m a := fun a ha => s3 a ha
  have g : ∀ a, a < 18 → m' a = m a := fun a ha => f a (by simp; omega)
  have g2 : ∀ a, 21 ≤ a → a < 66 → m' a = m a := fun a h1 h2 => f a (by simp; omega)
  unfold CW
  rw [g 1 (by omega), g 2 (by omega), g 0 (by omega), s1, g 17 (by omega), f 82 (by decide), f 73 (by decide), f 77 (by decide), f 78 (by decide), f 79 (by decide)]
  refine ⟨a1, ⟨c, c2, b1, b2, b3, b4, b5, b6, b7.fr (g _ (by omega)) (g _ (by omega)) (g _ (by omega)), fun j h1 h2 => by rw [g (c + 3) (by omega)]; exact b8 j h1 h2⟩, a3.cg (by rw [g 0 (by omega)]) (by rw [g 0 (by omega)]) s2 (g 8 (by omega)) (fun a ha => f a (by simp; omega)), ?_, ?_, a6, a7, a8, a9⟩
  · unfold CR lgs at a4 ⊢
    rw [g 17 (by omega), g2 21 (by omega) (by omega), g2 22 (by omega) (by omega), g2 23 (by omega) (by omega)]
    obtain ⟨e1, e2, e3, e4, e5, e6, e7, e8⟩ := a4
    refine ⟨e1, e2, e3, e4, e5, e6, fun i hi => ?_, fun i j h1 h2 => ?_⟩
    · have := slot_r (m 21 4) (abL A).length i
      rw [g2 _ (by omega) (by omega)]
      exact e7 i hi
    · have s1 := slot_r (m 21 4) (abL A).length i
      have s2 := slot_r (m 21 4) (abL A).length j
      rw [g2 (slotN (m 21 4) (abL A).length i) (by omega) (by omega), g2 (slotN (m 21 4) (abL A).length j) (by omega) (by omega)]
      exact e8 i j h1 h2
  · unfold CIm at a5 ⊢
    rw [g2 21 (by omega) (by omega), g2 24 (by omega) (by omega), g2 25 (by omega) (by omega)]
    exact a5
theorem SmC.hi {m' : Mm} (hs : SmC m m') : hiS m m' := fun a ha => hs.2.2 a (by simp; omega)
theorem MW.smm {m' : Mm} (h : MW m A) (hs : SmM m m') : MW m' A := by
  obtain ⟨a1, a2, a3, a4, a5, a6, a7, a8, a9⟩ := h
  obtain ⟨s1, s2⟩ := hs
  have k : ∀ j, (j = 2 ∨ j = 13 ∨ j = 27 ∨ j = 28 ∨ j = 29 ∨ j = 32 ∨ j = 33 ∨ j = 36 ∨ j = 48 ∨ j = 52) → m' 83 j = m 83 j := fun j hj => s1 j (by unfold scF; omega)
  unfold MW
  rw [k 2 (by omega), k 33 (by omega), k 48 (by omega), s2 84 (by decide), s2 100 (by decide), s2 102 (by decide), s2 107 (by decide), s2 108 (by decide), s2 109 (by decide)]
  refine ⟨a1, (kM_of s1 (s2 _ (by decide)) (s2 _ (by decide))).trans a2, a3, a4.cg (k 13 (by omega)) (k 32 (by omega)) (fun a x y => s2 a (by simp; omega)), ?_, ?_, a7, a8, a9⟩
  · unfold MR at a5 ⊢
    rw [k 36 (by omega), s2 101 (by decide), s2 103 (by decide)]
    exact a5
  · unfold MIm at a6 ⊢
    rw [k 52 (by omega), s2 112 (by decide)]
    exact a6
theorem SmM.lo {m' : Mm} (hs : SmM m m') : loS m m' := fun a ha => hs.2 a (by simp; omega)
theorem CW.ci (hH : HLaw) (hB : Bsh X.2.2.1) (hA : AOk A t) (h : CW X m A t) : ∃ c, CI X m c (abK A) (abB A) (abP A) (abQ A) := by
  obtain ⟨a1, ⟨c, c2, b1, b2, b3, b4, b5, b6, b7, b8⟩, a3, a4, -⟩ := h
  obtain ⟨-, -, c2', -, c4, -, -, -, c8, -⟩ := hA
  refine ⟨c, b1, b4, b6, b7.2.1, c2', fun hp => ?_⟩
  obtain ⟨d1, d2, d3, -, -⟩ := c4 hp
  exact ⟨⟨b1, b6, b7, hH.1 X m _ _ hB c8 a3, d1, curPf_ok _ _⟩, d2, d3.1, a4.1, b8⟩
theorem MW.mi (hH : HLaw) (hB : Bsh X.2.2.1) (hA : AOk A t) (h : MW m A) : MI X m (abK A) (abB A) (abP A) (abQ A) := by
  obtain ⟨a1, a2, a3, a4, a5, -⟩ := h
  obtain ⟨-, -, c2', -, c4, -, -, -, c8, c9⟩ := hA
  refine ⟨a2, a3, a5.1, c2', fun hp => ?_⟩
  obtain ⟨d1, d2, d3, -, -⟩ := c4 hp
  exact ⟨⟨a2, hH.2 X m _ _ hB c8 c9 a4, d1, curPf_ok _ _⟩, d2, d3.1⟩
/-- a call that only looks -/
theorem bth_ro {V M : Mm → (Int → Mm → Prop) → Prop} {F : Int} (hH : HLaw) (hB : Bsh X.2.2.1) (hI : InvA X m A t) (hV : ∀ (c : Nat) (Q : Int → Mm → Prop), CI X m c (abK A) (abB A) (abP A) (abQ A) → (∀ m', SmC m m' → Q F m') → V m Q) (hM : ∀ (m1 : Mm) (Q : Int → Mm → Prop), MI X m1 (abK A) (abB A) (abP A) (abQ A) → (∀ m', SmM m1 m' → Q F m') → M m1 Q) : Bth X A t V M m := by
  obtain ⟨c, hc⟩ := hI.1.ci hH hB hI.2.2
  exact bth_of hI (fun Q h => hV c Q hc (fun m' hs => h m' (hI.1.smc hs).up hs.hi)) (fun m1 Q h1 h => hM m1 Q (h1.mi hH hB hI.2.2) (fun m' hs => h m' (h1.smm hs) hs.lo))
/-! the calls -/
theorem op_sum (hH : HLaw) (hB : Bsh X.2.2.1) (hI : InvA X m A t) : Bth X A t (V_sum X (d + 20)) (M_sum X (d + 20)) m := bth_ro hH hB hI (fun _ _ hc h => V_sum_c hB hc h) (fun _ _ hc h => M_sum_c hB hc h)
theorem op_ends (hH : HLaw) (hB : Bsh X.2.2.1) (hI : InvA X m A t) {x : Int} (hx : R3 x) : Bth X A t (V_ends X (d + 20) x) (M_ends X (d + 20) x) m := bth_ro hH hB hI (fun _ _ hc h => V_ends_c hB hc hx h) (fun _ _ hc h => M_ends_c hB hc hx h)
theorem op_ahead (hH : HLaw) (hB : Bsh X.2.2.1) (hI : InvA X m A t) {x : Int} (hx : R3 x) : Bth X A t (V_ahead X (d + 20) x) (M_ahead X (d + 20) x) m := bth_ro hH hB hI (fun _ _ hc h => V_ahead_c hB hc hx h) (fun _ _ hc h => M_ahead_c hB hc hx h)
theorem op_met (hH : HLaw) (hB : Bsh X.2.2.1) (hI : InvA X m A t) : Bth X A t (V_met X (d + 20)) (M_met X (d + 20)) m := bth_ro hH hB hI (fun _ _ hc h => V_met_c hB hc h) (fun _ _ hc h => M_met_c hB hc h)
theorem op_stays (hH : HLaw) (hB : Bsh X.2.2.1) (hI : InvA X m A t) {x : Int} (hx : R3 x) : Bth X A t (V_stays X (d + 20) x) (M_stays X (d + 20) x) m := bth_ro hH hB hI (fun _ _ hc h => V_stays_c hB hc hx h) (fun _ _ hc h => M_stays_c hB hc hx h)
theorem op_knows (hH : HLaw) (hB : Bsh X.2.2.1) (hI : InvA X m A t) {x y : Int} (hx : R3 x) (hy : R3 y) : Bth X A t (V_knows X (d + 20) x y) (M_knows X (d + 20) x y) m := bth_ro hH hB hI (fun _ _ hc h => V_knows_c hB hc hx hy (h _ (SmC.rf _))) (fun _ _ hc h => M_knows_c hB hc hx hy (h _ (SmM.rf _)))
theorem op_shares (hH : HLaw) (hB : Bsh X.2.2.1) (hI : InvA X m A t) {x y : Int} (hx : R3 x) (hy : R3 y) : Bth X A t (V_shares X (d + 20) x y) (M_shares X (d + 20) x y) m := bth_ro hH hB hI (fun _ _ hc h => V_shares_c hB hc hx hy (h _ (SmC.rf _))) (fun _ _ hc h => M_shares_c hB hc hx hy (h _ (SmM.rf _)))
theorem op_most (hH : HLaw) (hB : Bsh X.2.2.1) (hI : InvA X m A t) {x : Int} (hx : R3 x) : Bth X A t (V_most X (d + 20) x) (M_most X (d + 20) x) m := bth_ro hH hB hI (fun _ _ hc h => V_most_c hB hc hx (h _ (SmC.rf _))) (fun _ _ hc h => M_most_c hB hc hx (h _ (SmM.rf _)))
theorem op_power (hH : HLaw) (hB : Bsh X.2.2.1) (hI : InvA X m A t) {x : Int} (hx : R3 x) : Bth X A t (V_power X (d + 20) x) (M_power X (d + 20) x) m := bth_ro hH hB hI (fun _ _ hc h => V_power_c hB hc hx h) (fun _ _ hc h => M_power_c hB hc hx h)
theorem op_game (hH : HLaw) (hB : Bsh X.2.2.1) (hI : InvA X m A t) {x y z u v : Int} (hx : R3 x) (hy : R3 y) (hz : R3 z) (hu : R3 u) (hv : R3 v) : Bth X A t (V_game X (d + 20) x y z u v) (M_game X (d + 20) x y z u v) m := bth_ro hH hB hI (fun _ _ hc h => V_game_c hB hc hx hy hz hu hv h) (fun _ _ hc h => M_game_c hB hc hx hy hz hu hv h)
theorem op_rests (hH : HLaw) (hB : Bsh X.2.2.1) (hI : InvA X m A t) {x y z : Int} (hx : R3 x) (hy : R3 y) (hz : R3 z) : Bth X A t (V_rests X (d + 20) x y z) (M_rests X (d + 20) x y z) m := bth_ro hH hB hI (fun _ _ hc h => V_rests_c hB hc hx hy hz h) (fun _ _ hc h => M_rests_c hB hc hx hy hz h)
theorem op_straw (hH : HLaw) (hB : Bsh X.2.2.1) (hI : InvA X m A t) {x y : Int} (hx : R3 x) (hy : R3 y) : Bth X A t (V_straw X (d + 20) x y) (M_straw X (d + 20) x y) m := bth_ro hH hB hI (fun _ _ hc h => V_straw_c hB hc hx hy h) (fun _ _ hc h => M_straw_c hB hc hx hy h)
theorem op_fewest (hH : HLaw) (hB : Bsh X.2.2.1) (hI : InvA X m A t) : Bth X A t (V_fewest X (d + 20)) (M_fewest X (d + 20)) m := bth_ro hH hB hI (fun _ _ hc h => V_fewest_c hB hc h) (fun _ _ hc h => M_fewest_c hB hc h)
theorem op_turn (hH : HLaw) (hB : Bsh X.2.2.1) (hI : InvA X m A t) {x y : Int} (hx : R3 x) (hy : R3 y) : Bth X A t (V_turn X (d + 20) x y) (M_turn X (d + 20) x y) m := bth_ro hH hB hI (fun _ _ hc h => V_turn_c hB hc hx hy h) (fun _ _ hc h => M_turn_c hB hc hx hy h)
theorem op_status (hB : Bsh X.2.2.1) (hI : InvA X m A t) {x : Int} (hx : R3 x) : Bth X A t (V_status X (d + 20) x) (M_status X (d + 20) x) m := by
  refine bth_of (F := if x < 0 ∨ 4 < x then -1 else abR A x) hI (fun Q h => ?_) (fun m1 Q h1 h => ?_)
  · have h := h m hI.1.up (fun _ _ => rfl)
    have hr := hI.1.2.2.2.2.2.2.1
    refine V_statusw hB ⟨hx, fun z => by rw [if_pos (by omega)] at h; exact h, fun z => ⟨fun z2 => ⟨by omega, ?_⟩, fun z2 => by rw [if_pos (by omega)] at h; exact h⟩⟩
    rw [if_neg (by omega), ← hr x z z2] at h
    exact h
  · have h := h m1 h1 (fun _ _ => rfl)
    have hr := h1.2.2.2.2.2.2.1
    refine M_statusw hB (M_in_c hx (by decide) (by decide) (fun z z2 => q1e ⟨by omega, ?_⟩) (fun z => q0e (by rw [if_pos z] at h; exact h)))
    rw [if_neg (by omega), ← hr x z (by omega)] at h
    exact h
theorem op_rule (hB : Bsh X.2.2.1) (hI : InvA X m A t) {x : Int} (hx : R3 x) : Bth X A t (V_rule X (d + 20) x) (M_rule X (d + 20) x) m := by
  have hn := hI.2.2.2.2.1
  refine bth_of (F := if kNm (abK A) = 0 ∨ x < 0 ∨ 4 < x then -1 else if x = 4 then abQ A 20 else kR (abK A) x) hI (fun Q h => ?_) (fun m1 Q h1 h => ?_)
  · have h := h m hI.1.up (fun _ _ => rfl)
    obtain ⟨c, c2, b1, b2, b3, b4, b5, b6, b7, b8⟩ := hI.1.2.1
    have h4 := b7.2.1
    have hS := hI.1.2.2.2.1.1
    refine V_rulew hB (V_hasCanton_c hB b1 b4 (by omega) (fun hp => q1e ⟨hx, fun z => by rw [if_pos (by omega)] at h; exact h, fun z => ⟨fun z2 => ⟨fun z3 => ⟨c, b1, b4, by omega, ?_⟩, fun z3 => ?_⟩, fun z2 => by rw [if_pos (by omega)] at h; exact h⟩⟩) (fun h0 => q0e (by rw [if_pos (by omega)] at h; exact h)))
    · rw [if_neg (by omega), if_neg z3] at h
      rw [b7.2.2.2.1 x z (by omega)]
      exact h
    · rw [if_neg (by omega), if_pos z3] at h
      rw [hS.2.2.2.1]
      exact h
  · have h := h m1 h1 (fun _ _ => rfl)
    have e28 : m1 83 28 = kNm (abK A) := by rw [← h1.2.1]; rfl
    refine M_rulew hB ⟨by omega, fun z => by rw [if_pos (by omega)] at h; exact h, fun hp => M_in_c hx (by decide) (by decide) (fun z z2 => q1n ⟨hx, fun z3 => ⟨by omega, ?_⟩, fun z3 => ?_⟩) (fun z => q0n (by rw [if_pos (by omega)] at h; exact h))⟩
    · rw [if_neg (by omega), if_neg z3, ← h1.2.1] at h
      exact h
    · rw [if_neg (by omega), if_pos z3, ← h1.2.2.2.2.1.1] at h
      exact h
theorem op_bump (hB : Bsh X.2.2.1) (hI : InvA X m A t) {x y : Int} (hx : R3 x) (hy : R3 y) : Bth X A t (V_bump X (d + 20) x y) (M_bump X (d + 20) x y) m := by
  have hnb : 0 ≤ kNb (abK A) ∧ kNb (abK A) ≤ 6 := by
    obtain ⟨-, -, a2, a3, a4, -⟩ := hI.2.2
    by_cases z : kNm (abK A) = 0
    · have := (a3 z).2.2.1
      omega
    · exact (a4 (by omega)).1.2.1
  refine bth_of (F := if x < 0 ∨ kNb (abK A) ≤ x ∨ y < 0 ∨ 4 < y then -1 else if y = 4 then bit (abQ A 19) x else kB (abK A) (4 * x + y)) hI (fun Q h => ?_) (fun m1 Q h1 h => ?_)
  · have h := h m hI.1.up (fun _ _ => rfl)
    obtain ⟨c, c2, b1, b2, b3, b4, b5, b6, b7, b8⟩ := hI.1.2.1
    have h3 := b7.1
    have hS := hI.1.2.2.2.1.1
    refine V_bumpw hB (V_isBump_c hB b1 b4 (by omega) hx (fun z1 z2 => q1e ⟨hy, fun z => by rw [if_pos (by omega)] at h; exact h, fun z => ⟨fun z2 => ⟨fun z3 => ⟨c, b1, b4, K_ofBump_c hB b1 (by omega) ?_⟩, fun z3 => ?_⟩, fun z2 => by rw [if_pos (by omega)] at h; exact h⟩⟩) (fun h0 => q0e (by rw [if_pos (by omega)] at h; exact h)))
    · rw [if_neg (by omega), if_neg z3] at h
      rw [b7.2.2.2.2 _ (by omega) (by omega)]
      exact h
    · rw [if_neg (by omega), if_pos z3] at h
      rw [hS.2.2.1]
      exact h
  · have h := h m1 h1 (fun _ _ => rfl)
    have e27 : m1 83 27 = kNb (abK A) := by rw [← h1.2.1]; rfl
    refine M_bumpw hB (M_isBump_c hB (by omega) hx (fun z1 z2 => q1e (M_in_c hy (by decide) (by decide) (fun z z3 => q1n ⟨hy, fun z4 => M_ofBump_c hB (by omega) ?_, fun z4 => ?_⟩) (fun z => q0n (by rw [if_pos (by omega)] at h; exact h)))) (fun z => q0e (by rw [if_pos (by omega)] at h; exact h)))
    · rw [if_neg (by omega), if_neg z4, ← h1.2.1] at h
      exact h
    · rw [if_neg (by omega), if_pos z4, ← h1.2.2.2.2.1.1] at h
      exact h
theorem op_dogs (hB : Bsh X.2.2.1) (hI : InvA X m A t) (ht : t + 1 ≤ 1000) {x : Int} (hx : R3 x) : ∃ A', AOk A' (t + 1) ∧ Bth X A' t (V_dogs X (d + 20) x) (M_dogs X (d + 20) x) m := by
  have hd := hI.2.2.2.2.2.2.2.2.1
  have hA1 := hI.2.2.up ht
  by_cases c : 0 ≤ x ∧ x ≤ 9 ∧ x ≠ abD A
  · refine ⟨(A.1, A.2.1, A.2.2.1, (abR A, x), A.2.2.2.2), ⟨hA1.1, hA1.2.1, hA1.2.2.1, hA1.2.2.2.1, hA1.2.2.2.2.1, hA1.2.2.2.2.2.1, by show 0 ≤ x ∧ x ≤ 9; omega, hA1.2.2.2.2.2.2.2⟩, bth_of (F := 1) hI (fun Q h => ?_) (fun m1 Q h1 h => ?_)⟩
    · have e := hI.1.2.2.2.2.2.2.2.1
      refine V_dogsw hB ⟨hx, fun z => by omega, fun z => ⟨fun z2 => by omega, fun z2 => ⟨by omega, fun z3 => h _ ?_ (fun a ha => up_off (by omega)), fun z3 => by omega⟩⟩⟩
      obtain ⟨a1, ⟨c, c2, b1, b2, b3, b4, b5, b6, b7, b8⟩, a3, a4, a5, a6, a7, a8, a9⟩ := hI.1.up
      have f : ∀ a, a ≠ 0 → up m 0 14 x a = m a := fun a ha => up_off ha
      unfold CW
      rw [f 1 (by omega), f 2 (by omega), f 18 (by omega), f 17 (by omega), f 82 (by omega), f 73 (by omega), f 77 (by omega), f 78 (by omega), f 79 (by omega), up_same, up_ne (Or.inr (by decide)), up_ne (Or.inr (by decide))]
      exact ⟨a1, ⟨c, c2, b1, b2, b3, b4, b5, b6, b7.fr (f _ (by omega)) (f _ (by omega)) (f _ (by omega)), fun j h1 h2 => by rw [f (c + 3) (by omega)]; exact b8 j h1 h2⟩, a3.cg (up_ne (Or.inr (by decide))) (up_ne (Or.inr (by decide))) (by rw [f 18 (by omega)]) (f 8 (by omega)) (fun a ha => f a (by omega)), a4.cg (f _ (by omega)) (by rw [f 21 (by omega)]) (by rw [f 21 (by omega)]) (f _ (by omega)) (f _ (by omega)) (fun a h1 h2 => f a (by omega)), a5.cg (by rw [f 21 (by omega)]) (f _ (by omega)) (f _ (by omega)), a6, a7, rfl, a9⟩
    · have e := h1.2.2.2.2.2.2.2.1
      refine M_dogsw hB (M_in_c hx (by decide) (by decide) (fun z z2 => q1e ⟨hx, by omega, fun z3 => h _ ?_ (fun a ha => up_off (by omega)), fun z3 => by omega⟩) (fun z => by omega))
      obtain ⟨a1, a2, a3, a4, a5, a6, a7, a8, a9⟩ := h1
      have f : ∀ a, a ≠ 83 → up m1 83 33 x a = m1 a := fun a ha => up_off ha
      have k : ∀ j, j ≠ 33 → up m1 83 33 x 83 j = m1 83 j := fun j hj => up_ne (Or.inr hj)
      unfold MW
      rw [k 2 (by decide), up_same, k 48 (by decide), f 84 (by decide), f 100 (by decide), f 102 (by decide), f 107 (by decide), f 108 (by decide), f 109 (by decide)]
      refine ⟨a1, ?_, a3, a4.cg (k 13 (by decide)) (k 32 (by decide)) (fun a x y => f a (by omega)), ?_, ?_, a7, rfl, a9⟩
      · unfold kM at a2 ⊢
        rw [f 98 (by decide), f 99 (by decide), k 27 (by decide), k 28 (by decide), k 29 (by decide)]
        exact a2
      · unfold MR at a5 ⊢
        rw [k 36 (by decide), f 101 (by decide), f 103 (by decide)]
        exact a5
      · unfold MIm at a6 ⊢
        rw [k 52 (by decide), f 112 (by decide)]
        exact a6
  · refine ⟨A, hA1, bth_of (F := 0) hI (fun Q h => ?_) (fun m1 Q h1 h => ?_)⟩
    · have h := h m hI.1.up (fun _ _ => rfl)
      have e := hI.1.2.2.2.2.2.2.2.1
      exact V_dogsw hB ⟨hx, fun z => h, fun z => ⟨fun z2 => h, fun z2 => ⟨by omega, fun z3 => by omega, fun z3 => h⟩⟩⟩
    · have h := h m1 h1 (fun _ _ => rfl)
      have e := h1.2.2.2.2.2.2.2.1
      exact M_dogsw hB (M_in_c hx (by decide) (by decide) (fun z z2 => q1e ⟨hx, by omega, fun z3 => by omega, fun z3 => h⟩) (fun z => q0e h))
end Glue
