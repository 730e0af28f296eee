/-! ===== back, law, end, seen ===== -/
section More
variable {X : Cx} {d : Nat} {m m' : Mm} {A : Ab} {t : Int} {Q : Int → Mm → Prop} {Q0 : Mm → Prop}
theorem H_giveImageBack_10_c (hB : Bsh X.2.2.1) {iq : Int → Int} (hr : 0 ≤ iq 24 ∧ iq 24 ≤ 60) : ∀ (f : Nat) (m : Mm) (l2 : Int), 0 ≤ l2 → iq 24 - l2 = f → m 24 10 = iq 24 → (∀ i, 0 ≤ i → i < iq 24 → m 25 i = lrow iq (iq 24 - 1 - i)) → (∀ i, 0 ≤ i → i < l2 → m 22 (iq 24 - 1 - i) = lrow iq (iq 24 - 1 - i)) → (∀ m2, (∀ i, 0 ≤ i → i < iq 24 → m2 22 (iq 24 - 1 - i) = lrow iq (iq 24 - 1 - i)) → m2 21 0 = 0 → (∀ k, k ≠ 0 → m2 21 k = m 21 k) → Fr [21, 22] m m2 → Q0 m2) → H_giveImageBack_10 X (d + 1) l2 m Q0 := by
  intro f
  induction f with
  | zero =>
    intro m l2 hl hf e24 h25 h1 h
    exact H_giveImageBack_10w hB ⟨by omega, by omega, fun _ => h _ (fun i i1 i2 => by rw [up_ne (Or.inl (by decide))]; exact h1 i i1 (by omega)) (up_same _ _ _ _) (fun k hk => up_ne (Or.inr hk)) ((Fr.rf _ _).up (by simp)), fun z => by omega⟩
  | succ f ih =>
    intro m l2 hl hf e24 h25 h1 h
    refine H_giveImageBack_10w hB ⟨by omega, by omega, fun z => by omega, fun _ => ⟨by omega, by omega, ?_⟩⟩
    rw [e24, h25 l2 hl (by omega)]
    refine ih _ (l2 + 1) (by omega) (by omega) (by rw [up_ne (Or.inl (by decide))]; exact e24) (fun i i1 i2 => by rw [up_ne (Or.inl (by decide))]; exact h25 i i1 i2) (fun i i1 i2 => ?_) (fun m2 g1 g2 g3 g4 => h m2 g1 g2 (fun k hk => by rw [g3 k hk, up_ne (Or.inl (by decide))]) (((Fr.rf _ _).up (by simp)).tr g4))
    rw [up_at]
    by_cases z : i = l2
    · rw [if_pos (by omega), z]
    · rw [if_neg (by omega)]
      exact h1 i i1 (by omega)
theorem M_back_11_c (hB : Bsh X.2.2.1) : ∀ (f : Nat) (m : Mm) (l1 : Int), 0 ≤ l1 → 205 - l1 = f → (∀ m', (∀ j, m' 101 j = if l1 ≤ j ∧ j < 205 then m 112 j else m 101 j) → m' 83 36 = 0 → (∀ k, k ≠ 36 → m' 83 k = m 83 k) → Fr [83, 101] m m' → Q (m' 101 21) m') → M_back_11 X d l1 m Q := by
  intro f
  induction f with
  | zero =>
    intro m l1 hl hf h
    refine M_back_11w hB ⟨by omega, fun _ => ?_, fun e => by omega⟩
    have := h (up m 83 36 0) (fun j => by rw [if_neg (by omega), up_ne (Or.inl (by decide))]) (up_same _ _ _ _) (fun k hk => up_ne (Or.inr hk)) ((Fr.rf _ _).up (by simp))
    rw [up_ne (Or.inl (by decide))] at this
    exact this
  | succ f ih =>
    intro m l1 hl hf h
    refine M_back_11w hB ⟨by omega, fun e => by omega, fun _ => ⟨by omega, ?_⟩⟩
    refine ih _ (l1 + 1) (by omega) (by omega) (fun m' g1 g2 g3 g4 => h m' (fun j => ?_) g2 (fun k hk => by rw [g3 k hk, up_ne (Or.inl (by decide))]) (((Fr.rf _ _).up (by simp)).tr g4))
    rw [g1 j, up_ne (Or.inl (by decide)), up_at]
    by_cases z : l1 + 1 ≤ j ∧ j < 205
    · rw [if_pos z, if_pos (by omega)]
    · rw [if_neg z]
      by_cases z2 : j = l1
      · rw [if_pos z2, if_pos (by omega), z2]
      · rw [if_neg z2, if_neg (by omega)]
theorem op_back (hB : Bsh X.2.2.1) (hI : InvA X m A t) (ht : t + 1 ≤ 1000) : ∃ A', AOk A' (t + 1) ∧ Bth X A' t (V_back X (d + 20)) (M_back X (d + 20)) m := by
  have hn := hI.n
  have hC := hI.1.2.2.2.1
  have hIm := hI.1.2.2.2.2.1
  cases hio : abI A with
  | none =>
    rw [hio] at hIm
    have e1 : m 21 1 = 0 := hIm
    refine ⟨A, hI.2.2.up ht, bth_of (F := -1) hI (fun Q h => ?_) (fun m1 Q h1 h => ?_)⟩
    · exact V_backw hB ⟨by omega, fun z => by omega, fun _ => h m hI.1.up (fun _ _ => rfl)⟩
    · have hM := h1.2.2.2.2.2.1
      rw [hio] at hM
      have e2 : m1 83 52 = 0 := hM
      exact M_backw hB ⟨by omega, fun z => by omega, fun _ => h m1 h1 (fun _ _ => rfl)⟩
  | some iq =>
    rw [hio] at hIm
    obtain ⟨i1, i2, i3, i4, i5⟩ := hIm
    have hp : 0 < kNm (abK A) := by
      rcases Int.lt_or_le 0 (kNm (abK A)) with z | z
      · exact z
      · have := (hI.2.2.2.2.2.1 (by omega)).2.1
        rw [this] at hio
        cases hio
    have hqa := (hI.2.2.2.2.2.2.1 hp).2.2.2.2 iq hio
    have hlow : ∀ j, 0 ≤ j → j < 205 → unQ (abQ A) iq j = iq j := fun j h1 h2 => by unfold unQ; rw [if_pos ⟨h1, h2⟩]
    refine bth_act hI ht hp (q' := unQ (abQ A) iq) (AL' := []) (F := iq 21) ⟨hqa.1.cq hn.2 (fun j h1 h2 => hlow j h1 (by omega)), by rw [hlow 23 (by decide) (by decide)]; exact hqa.2.1, by rw [hlow 23 (by decide) (by decide)]; have := hqa.2.2; omega⟩ (fun a ha => by cases ha) (fun Q h => ?_) (fun m1 Q h1 h => ?_)
    · refine V_backw hB ⟨by omega, fun _ => H_giveImageBackw hB (T_copy_c hB (by decide) (by decide) (by decide) ?_), fun z => by omega⟩
      have f1 : ∀ a, a ≠ 17 → cpS m 17 24 a = m a := fun a ha => cp_fr m 17 24 a (by simp; exact ha)
      have e17 : ∀ j, 0 ≤ j → j ≤ 10 → cpS m 17 24 17 j = m 24 j := fun j h1 h2 => by unfold cpS; rw [if_pos ⟨rfl, h1, h2⟩]
      refine H_giveImageBack_10_c hB (iq := iq) i4.1 (iq 24).toNat _ 0 (by omega) (by have := i4.1; omega) (by rw [f1 24 (by decide)]; exact i3) (fun i h1 h2 => by rw [f1 25 (by decide)]; exact i5 i h1 h2) (fun i h1 h2 => by omega) (fun m2 g1 g2 g3 g4 => ?_)
      have g17 : m2 17 = cpS m 17 24 17 := g4 17 (by decide)
      have e7 : m2 17 7 = iq 21 := by rw [g17, e17 7 (by decide) (by decide)]; exact i2.2.2.2.2.1
      have e10 : m2 17 10 = iq 24 := by rw [g17, e17 10 (by decide) (by decide)]; exact i3
      have fo : ∀ a, a ≠ 17 → a ≠ 21 → a ≠ 22 → m2 a = m a := fun a h1 h2 h3 => by rw [g4 a (by simp; omega)]; exact f1 a h1
      rw [e7]
      have h10 : m2 17 10 ≤ m 17 10 + 400 := by have := hC.2.1.2.1; have := i4.1; omega
      refine h m2 0 ⟨(i2.cong (fun j h1 h2 => by rw [g17]; exact e17 j h1 (by omega))).cq hn.2 (fun j h1 h2 => hlow j h1 (by omega)), ?_, g2, by decide, by rw [g3 4 (by decide), f1 21 (by decide)]; exact hC.2.2.2.2.1, by rw [fo 23 (by decide) (by decide) (by decide)]; exact hC.2.2.2.2.2.1, fun i hi => absurd hi (Nat.not_lt_zero _), fun i j h1 h2 => ?_⟩ (by decide) ⟨by rw [fo 18 (by decide) (by decide) (by decide)], by rw [fo 18 (by decide) (by decide) (by decide)], by rw [g3 1 (by decide), f1 21 (by decide)], fun a ha => fo a (by omega) (by omega) (by omega)⟩ h10
      · have hr := i4.1
        have hL : Lg (m2 22) (iq 24) iq := ⟨i4, hr.1, by omega, fun i h1 h2 => by
          have e : (iq 24 - 1 - i) % 1024 = iq 24 - 1 - i := by omega
          rw [e]
          exact g1 i h1 h2⟩
        rw [e10]
        exact hL.cg (fun _ _ _ => rfl) hlow
      · have h2' : j ≤ 0 := h2
        have e1 : i = 0 := by omega
        have e2 : j = 0 := by omega
        rw [e1, e2, if_neg (by omega)]
        omega
    · have hM := h1.2.2.2.2.2.1
      rw [hio] at hM
      obtain ⟨j1, j2⟩ := hM
      have e101 := h1.q
      refine M_backw hB ⟨by omega, fun _ => M_back_11_c hB 205 m1 0 (by omega) (by omega) (fun m2 g1 g2 g3 g4 => ?_), fun z => by omega⟩
      have eq : m2 101 = unQ (abQ A) iq := by
        funext j
        rw [g1 j, e101]
        unfold unQ
        by_cases z : 0 ≤ j ∧ j < 205
        · rw [if_pos z, if_pos z]
          exact j2 j z.1 z.2
        · rw [if_neg z, if_neg z]
      have e21 : m2 101 21 = iq 21 := by rw [eq]; exact hlow 21 (by decide) (by decide)
      rw [e21]
      exact h m2 ⟨eq, g2, by decide, fun i hi => absurd hi (Nat.not_lt_zero _)⟩ ⟨fun k _ hk => g3 k hk, g4.wd (by decide)⟩
theorem op_end (hB : Bsh X.2.2.1) (hI : InvA X m A t) (ht : t + 1 ≤ 1000) {x : Int} (hx : R3 x) : ∃ A', AOk A' (t + 1) ∧ Bth X A' t (V_end X (d + 20) x) (M_end X (d + 20) x) m := by
  have hT := hI.2.2.2.1
  have hA1 := hI.2.2.up ht
  have e11 : m 1 1 = abS A := hI.1.1.1
  by_cases c : 0 ≤ x ∧ x ≤ abS A
  · refine ⟨setT A x (abT A), ⟨hA1.1, ⟨c.1, by show x ≤ 240; omega, fun j h1 h2 => hT.2.2 j h1 (by have h2' : j < x := h2; omega)⟩, hA1.2.2⟩, bth_of (F := 1) hI (fun Q h => ?_) (fun m1 Q h1 h => ?_)⟩
    · refine V_endw hB ⟨hx, fun z => by omega, fun _ => ⟨by omega, fun _ => ?_, fun z => by omega⟩⟩
      obtain ⟨a1, ⟨c', c2, b1, b2, b3, b4, b5, b6, b7, b8⟩, a3, a4, a5, a6, a7, a8, a9⟩ := hI.1.up
      have f : ∀ a, a ≠ 1 → up m 1 1 x a = m a := fun a h1 => up_off h1
      refine h _ ?_ (fun a ha => f a (by omega))
      unfold CW
      rw [f 0 (by decide), f 2 (by decide), f 18 (by decide), f 17 (by decide), f 82 (by decide), f 73 (by decide), f 77 (by decide), f 78 (by decide), f 79 (by decide)]
      exact ⟨⟨up_same _ _ _ _, fun j h1 h2 => a1.2 j h1 (by have h2' : j < x := h2; omega)⟩, ⟨c', c2, b1, b2, b3, b4, b5, b6, b7.fr (f _ (by omega)) (f _ (by omega)) (f _ (by omega)), fun j h1 h2 => by rw [f (c' + 3) (by omega)]; exact b8 j h1 h2⟩, a3.cg (by rw [f 0 (by decide)]) (by rw [f 0 (by decide)]) (by rw [f 18 (by decide)]) (f 8 (by decide)) (fun a ha => f a (by omega)), a4.cg (f _ (by decide)) (by rw [f 21 (by decide)]) (by rw [f 21 (by decide)]) (f _ (by decide)) (f _ (by decide)) (fun a h1 h2 => f a (by omega)), a5.cg (by rw [f 21 (by decide)]) (f _ (by decide)) (f _ (by decide)), a6, a7, a8, a9⟩
    · have e2 := h1.1.1
      refine M_endw hB ⟨hx, fun z => by omega, fun _ => ⟨by omega, fun _ => ?_, fun z => by omega⟩⟩
      obtain ⟨a1, a2, a3, a4, a5, a6, a7, a8, a9⟩ := h1
      have f : ∀ a, a ≠ 83 → up m1 83 2 x a = m1 a := fun a ha => up_off ha
      have k : ∀ j, j ≠ 2 → up m1 83 2 x 83 j = m1 83 j := fun j hj => up_ne (Or.inr hj)
      refine h _ ?_ (fun a ha => f a (by omega))
      unfold MW
      rw [k 33 (by decide), k 48 (by decide), f 84 (by decide), f 100 (by decide), f 102 (by decide), f 107 (by decide), f 108 (by decide), f 109 (by decide)]
      refine ⟨⟨up_same _ _ _ _, fun j j1 j2 => a1.2 j j1 (by have j2' : j < x := j2; omega)⟩, ?_, a3, a4.cg (k 13 (by decide)) (k 32 (by decide)) (fun a x y => f a (by omega)), ?_, ?_, a7, a8, a9⟩
      · unfold kM at a2 ⊢
        rw [k 27 (by decide), k 28 (by decide), k 29 (by decide), f 98 (by decide), f 99 (by decide)]
        exact a2
      · unfold MR at a5 ⊢
        rw [k 36 (by decide), f 101 (by decide), f 103 (by decide)]
        exact a5
      · unfold MIm at a6 ⊢
        rw [k 52 (by decide), f 112 (by decide)]
        exact a6
  · refine ⟨A, hA1, bth_of (F := 0) hI (fun Q h => ?_) (fun m1 Q h1 h => ?_)⟩
    · have h := h m hI.1.up (fun _ _ => rfl)
      exact V_endw hB ⟨hx, fun _ => h, fun _ => ⟨by omega, fun z => by omega, fun _ => h⟩⟩
    · have h := h m1 h1 (fun _ _ => rfl)
      have e2 := h1.1.1
      exact M_endw hB ⟨hx, fun _ => h, fun _ => ⟨by omega, fun z => by omega, fun _ => h⟩⟩
theorem op_law (hB : Bsh X.2.2.1) (hI : InvA X m A t) (ht : t + 1 ≤ 1000) {x : Int} (hx : R3 x) : ∃ A', AOk A' (t + 1) ∧ Bth X A' t (V_law X (d + 20) x) (M_law X (d + 20) x) m := by
  have hA1 := hI.2.2.up ht
  have hLs := hI.2.2.2.2.2.2.2.2.2.2.1
  have e4 : m 0 4 = (abW A).length := hI.1.2.2.1.1
  have hlen := hLs.1
  by_cases c : -1 ≤ x ∧ x < (abW A).length
  · refine ⟨setH A (abW A) x, ⟨hA1.1, hA1.2.1, hA1.2.2.1, hA1.2.2.2.1, hA1.2.2.2.2.1, hA1.2.2.2.2.2.1, hA1.2.2.2.2.2.2.1, hA1.2.2.2.2.2.2.2.1, hLs, by show x = -1 ∨ (0 ≤ x ∧ x < (abW A).length); omega⟩, bth_of (F := 1) hI (fun Q h => ?_) (fun m1 Q h1 h => ?_)⟩
    · obtain ⟨a1, ⟨c', c2, b1, b2, b3, b4, b5, b6, b7, b8⟩, a3, a4, a5, a6, a7, a8, a9⟩ := hI.1.up
      have key : ∀ v : Int, (v = if x < 0 then -1 else m 8 x) → Q 1 (up (up m 0 5 x) 18 1 v) := by
        intro v hv
        have f : ∀ a, a ≠ 0 → a ≠ 18 → up (up m 0 5 x) 18 1 v a = m a := fun a h1 h2 => by rw [up_off h2, up_off h1]
        have k0 : ∀ j, j ≠ 5 → up (up m 0 5 x) 18 1 v 0 j = m 0 j := fun j hj => by rw [up_ne (Or.inl (by decide)), up_ne (Or.inr hj)]
        have k18 : ∀ j, j ≠ 1 → up (up m 0 5 x) 18 1 v 18 j = m 18 j := fun j hj => by rw [up_ne (Or.inr hj), up_ne (Or.inl (by decide))]
        refine h _ ?_ (fun a ha => f a (by omega) (by omega))
        unfold CW
        rw [f 1 (by decide) (by decide), f 2 (by decide) (by decide), k0 6 (by decide), k0 7 (by decide), k0 14 (by decide), k18 0 (by decide), f 17 (by decide) (by decide), f 82 (by decide) (by decide), f 73 (by decide) (by decide), f 77 (by decide) (by decide), f 78 (by decide) (by decide), f 79 (by decide) (by decide)]
        refine ⟨a1, ⟨c', c2, b1, b2, b3, b4, b5, b6, b7.fr (f _ (by omega) (by omega)) (f _ (by omega) (by omega)) (f _ (by omega) (by omega)), fun j h1 h2 => by rw [f (c' + 3) (by omega) (by omega)]; exact b8 j h1 h2⟩, ⟨?_, ?_, by show x = -1 ∨ (0 ≤ x ∧ x < (abW A).length); omega, ?_, fun i hi => ?_⟩, a4.cg (f _ (by decide) (by decide)) (by rw [f 21 (by decide) (by decide)]) (by rw [f 21 (by decide) (by decide)]) (f _ (by decide) (by decide)) (f _ (by decide) (by decide)) (fun a h1 h2 => f a (by omega) (by omega)), a5.cg (by rw [f 21 (by decide) (by decide)]) (f _ (by decide) (by decide)) (f _ (by decide) (by decide)), a6, a7, a8, a9⟩
        · rw [k0 4 (by decide)]; exact a3.1
        · rw [up_ne (Or.inl (by decide)), up_same]
        · rw [up_same, f 8 (by decide) (by decide)]; exact hv
        · obtain ⟨l, a, ln, d1, d2, d3, d4, d5, d6, d7, d8⟩ := a3.2.2.2.2 i hi
          exact ⟨l, a, ln, by rw [f 8 (by decide) (by decide)]; exact d1, d2, d3, d4, d5, d6, d7, fun j hj => by rw [f a (by omega) (by omega)]; exact d8 j hj⟩
      refine V_laww hB ⟨hx, fun z => by omega, fun _ => ⟨by omega, fun _ => ⟨fun z => ⟨by omega, ?_⟩, fun z => key (-1) (by rw [if_pos (by omega)])⟩, fun z => by omega⟩⟩
      obtain ⟨l, a, ln, d1, -⟩ := a3.2.2.2.2 x.toNat (by omega)
      have ex : ((x.toNat : Nat) : Int) = x := by omega
      rw [ex] at d1
      exact ⟨l, d1, key (l : Int) (by rw [if_neg (by omega), d1])⟩
    · obtain ⟨a1, a2, a3, a4, a5, a6, a7, a8, a9⟩ := h1
      have e13 := a4.1
      refine M_laww hB (M_in_c hx (by decide) (by omega) (fun z z2 => q1n ?_) (fun z => by omega))
      have f : ∀ a, a ≠ 83 → up m1 83 32 x a = m1 a := fun a ha => up_off ha
      have k : ∀ j, j ≠ 32 → up m1 83 32 x 83 j = m1 83 j := fun j hj => up_ne (Or.inr hj)
      refine h _ ?_ (fun a ha => f a (by omega))
      unfold MW
      rw [k 2 (by decide), k 33 (by decide), k 48 (by decide), f 84 (by decide), f 100 (by decide), f 102 (by decide), f 107 (by decide), f 108 (by decide), f 109 (by decide)]
      refine ⟨a1, ?_, a3, ⟨by rw [k 13 (by decide)]; exact a4.1, up_same _ _ _ _, fun i hi => ?_⟩, ?_, ?_, a7, a8, a9⟩
      · unfold kM at a2 ⊢
        rw [k 27 (by decide), k 28 (by decide), k 29 (by decide), f 98 (by decide), f 99 (by decide)]
        exact a2
      · have := a4.2.2 i hi
        unfold MlAt at this ⊢
        rw [f 88 (by decide)]
        exact ⟨this.1, MlCl.cg (fun a h1 h2 => f a (by omega)) _ _ _ this.2⟩
      · unfold MR at a5 ⊢
        rw [k 36 (by decide), f 101 (by decide), f 103 (by decide)]
        exact a5
      · unfold MIm at a6 ⊢
        rw [k 52 (by decide), f 112 (by decide)]
        exact a6
  · refine ⟨A, hA1, bth_of (F := 0) hI (fun Q h => ?_) (fun m1 Q h1 h => ?_)⟩
    · have h := h m hI.1.up (fun _ _ => rfl)
      exact V_laww hB ⟨hx, fun _ => h, fun _ => ⟨by omega, fun z => by omega, fun _ => h⟩⟩
    · have h := h m1 h1 (fun _ _ => rfl)
      have e13 := h1.2.2.2.1.1
      exact M_laww hB (M_in_c hx (by decide) (by omega) (fun z z2 => by omega) (fun z => q0n h))
theorem op_seen (hB : Bsh X.2.2.1) (hI : InvA X m A t) (ht : t + 1 ≤ 1000) {x y z : Int} (hx : R3 x) (hy : R3 y) (hz : z = 0 ∨ z = 1) : ∃ A', AOk A' (t + 1) ∧ Bth X A' t (V_seen X (d + 20) x y z) (M_seen X (d + 20) x y z) m := by
  have hn := hI.n
  have hA1 := hI.2.2.up ht
  have hN := hI.2.2.2.2.2.2.2.2.2.1
  obtain ⟨c, c2, b1, b2, b3, b4, b5, b6, b7, b8⟩ := hI.1.2.1
  have h4 := b7.2.1
  have e0 : m (c + 1) 0 = kR (abK A) 0 := b7.2.2.2.1 0 (by omega) (by omega)
  have e73 : m 73 0 = abN A := hI.1.2.2.2.2.2.2.2.2.1
  have hw : 0 < kNm (abK A) → 3 ≤ kR (abK A) 0 ∧ kR (abK A) 0 ≤ 9 := fun hp => (hI.k hp).2.2.1
  by_cases cc : 0 < kNm (abK A) ∧ (1 ≤ x ∧ x ≤ 20) ∧ (0 ≤ y ∧ y < kR (abK A) 0) ∧ abN A < 10
  · obtain ⟨hp, hx2, hy2, hn10⟩ := cc
    have hw := hw hp
    refine ⟨setN A (abN A + 1) (fun j => if j = abN A then x else abNr A j) (fun j => if j = abN A then y else abNc A j) (fun j => if j = abN A then z else abNi A j), ⟨hA1.1, hA1.2.1, hA1.2.2.1, fun z0 => by have z0' : kNm (abK A) = 0 := z0; omega, hA1.2.2.2.2.1, hA1.2.2.2.2.2.1, hA1.2.2.2.2.2.2.1, ⟨by show 0 ≤ abN A + 1 ∧ abN A + 1 ≤ 10; omega, fun j h1 h2 => ?_⟩, hA1.2.2.2.2.2.2.2.2⟩, bth_of (F := abN A + 1) hI (fun Q h => ?_) (fun m1 Q h1 h => ?_)⟩
    · have h2' : j < abN A + 1 := h2
      show (1 ≤ (if j = abN A then x else abNr A j) ∧ (if j = abN A then x else abNr A j) ≤ 20) ∧ (0 ≤ (if j = abN A then y else abNc A j) ∧ (if j = abN A then y else abNc A j) < kR (abK A) 0) ∧ ((if j = abN A then z else abNi A j) = 0 ∨ (if j = abN A then z else abNi A j) = 1)
      by_cases zz : j = abN A
      · rw [if_pos zz, if_pos zz, if_pos zz]
        exact ⟨hx2, hy2, hz⟩
      · rw [if_neg zz, if_neg zz, if_neg zz]
        exact hN.2 j h1 (by omega)
    · refine V_seenw hB (V_hasCanton_c hB b1 b4 (by omega) (fun _ => q1e ⟨hx, fun e => by omega, fun _ => ⟨fun _ => ⟨hy, fun e => by omega, fun _ => ⟨c, b1, b4, by omega, fun e => by omega, fun _ => ⟨by omega, fun _ => U_tellw hB ⟨by omega, fun e => by omega, fun _ => ⟨by omega, hz, ?_⟩⟩, fun e => by omega⟩⟩⟩, fun e => by omega⟩⟩) (fun e => by omega))
      rw [e73, up_same]
      obtain ⟨a1, -, a3, a4, a5, a6, a7, a8, a9⟩ := hI.1.up
      obtain ⟨m2, hm2⟩ : ∃ m2, m2 = up (up (up (up m 77 (abN A) x) 78 (abN A) y) 79 (abN A) z) 73 0 (abN A + 1) := ⟨_, rfl⟩
      rw [← hm2]
      have f : ∀ a, a ≠ 73 → a ≠ 77 → a ≠ 78 → a ≠ 79 → m2 a = m a := fun a h1 h2 h3 h4 => by rw [hm2, up_off h1, up_off h4, up_off h3, up_off h2]
      refine h m2 ?_ (fun a ha => f a (by omega) (by omega) (by omega) (by omega))
      unfold CW
      rw [f 1 (by decide) (by decide) (by decide) (by decide), f 2 (by decide) (by decide) (by decide) (by decide), f 0 (by decide) (by decide) (by decide) (by decide), f 18 (by decide) (by decide) (by decide) (by decide), f 17 (by decide) (by decide) (by decide) (by decide), f 82 (by decide) (by decide) (by decide) (by decide)]
      refine ⟨a1, ⟨c, c2, b1, b2, b3, b4, b5, b6, b7.fr (f _ (by omega) (by omega) (by omega) (by omega)) (f _ (by omega) (by omega) (by omega) (by omega)) (f _ (by omega) (by omega) (by omega) (by omega)), fun j h1 h2 => by rw [f (c + 3) (by omega) (by omega) (by omega) (by omega)]; exact b8 j h1 h2⟩, a3.cg (by rw [f 0 (by decide) (by decide) (by decide) (by decide)]) (by rw [f 0 (by decide) (by decide) (by decide) (by decide)]) (by rw [f 18 (by decide) (by decide) (by decide) (by decide)]) (f 8 (by decide) (by decide) (by decide) (by decide)) (fun a ha => f a (by omega) (by omega) (by omega) (by omega)), a4.cg (f _ (by decide) (by decide) (by decide) (by decide)) (by rw [f 21 (by decide) (by decide) (by decide) (by decide)]) (by rw [f 21 (by decide) (by decide) (by decide) (by decide)]) (f _ (by decide) (by decide) (by decide) (by decide)) (f _ (by decide) (by decide) (by decide) (by decide)) (fun a h1 h2 => f a (by omega) (by omega) (by omega) (by omega)), a5.cg (by rw [f 21 (by decide) (by decide) (by decide) (by decide)]) (f _ (by decide) (by decide) (by decide) (by decide)) (f _ (by decide) (by decide) (by decide) (by decide)), a6, a7, a8, by rw [hm2]; exact up_same _ _ _ _, fun j h1 h2 => ?_⟩
      have h2' : j < abN A + 1 := h2
      show m2 77 j = (if j = abN A then x else abNr A j) ∧ m2 78 j = (if j = abN A then y else abNc A j) ∧ m2 79 j = (if j = abN A then z else abNi A j)
      have e77 : m2 77 j = if j = abN A then x else m 77 j := by rw [hm2, up_ne (Or.inl (by decide)), up_ne (Or.inl (by decide)), up_ne (Or.inl (by decide)), up_at]
      have e78 : m2 78 j = if j = abN A then y else m 78 j := by rw [hm2, up_ne (Or.inl (by decide)), up_ne (Or.inl (by decide)), up_at, up_ne (Or.inl (by decide))]
      have e79 : m2 79 j = if j = abN A then z else m 79 j := by rw [hm2, up_ne (Or.inl (by decide)), up_at, up_ne (Or.inl (by decide)), up_ne (Or.inl (by decide))]
      rw [e77, e78, e79]
      by_cases zz : j = abN A
      · rw [if_pos zz, if_pos zz, if_pos zz, if_pos zz, if_pos zz, if_pos zz]
        exact ⟨rfl, rfl, rfl⟩
      · rw [if_neg zz, if_neg zz, if_neg zz, if_neg zz, if_neg zz, if_neg zz]
        exact a9.2 j h1 (by omega)
    · obtain ⟨a1, a2, a3, a4, a5, a6, a7, a8, a9⟩ := id h1
      have e28 := h1.n
      have e98 : m1 98 0 = kR (abK A) 0 := by rw [← a2]; rfl
      have e48 := a9.1
      refine M_seenw hB ⟨by omega, fun e => by omega, fun _ => M_in_c hx (by decide) (by decide) (fun _ _ => q1e (M_in_c hy (by decide) (by omega) (fun _ _ => q1e ⟨by omega, fun _ => ⟨by omega, hz, ?_⟩, fun e => by omega⟩) (fun e => by omega))) (fun e => by omega)⟩
      rw [e48]
      obtain ⟨m2, hm2⟩ : ∃ m2, m2 = up (up (up (up m1 107 (abN A) x) 108 (abN A) y) 109 (abN A) z) 83 48 (abN A + 1) := ⟨_, rfl⟩
      rw [← hm2]
      have f : ∀ a, a ≠ 83 → a ≠ 107 → a ≠ 108 → a ≠ 109 → m2 a = m1 a := fun a h1 h2 h3 h4 => by rw [hm2, up_off h1, up_off h4, up_off h3, up_off h2]
      have k : ∀ j, j ≠ 48 → m2 83 j = m1 83 j := fun j hj => by rw [hm2, up_ne (Or.inr hj), up_ne (Or.inl (by decide)), up_ne (Or.inl (by decide)), up_ne (Or.inl (by decide))]
      refine h m2 ?_ (fun a ha => f a (by omega) (by omega) (by omega) (by omega))
      unfold MW
      rw [k 2 (by decide), k 33 (by decide), f 84 (by decide) (by decide) (by decide) (by decide), f 100 (by decide) (by decide) (by decide) (by decide), f 102 (by decide) (by decide) (by decide) (by decide)]
      refine ⟨a1, ?_, a3, a4.cg (k 13 (by decide)) (k 32 (by decide)) (fun a x y => f a (by omega) (by omega) (by omega) (by omega)), ?_, ?_, a7, a8, by rw [hm2]; exact up_same _ _ _ _, fun j h3 h2 => ?_⟩
      · unfold kM at a2 ⊢
        rw [k 27 (by decide), k 28 (by decide), k 29 (by decide), f 98 (by decide) (by decide) (by decide) (by decide), f 99 (by decide) (by decide) (by decide) (by decide)]
        exact a2
      · unfold MR at a5 ⊢
        rw [k 36 (by decide), f 101 (by decide) (by decide) (by decide) (by decide), f 103 (by decide) (by decide) (by decide) (by decide)]
        exact a5
      · unfold MIm at a6 ⊢
        rw [k 52 (by decide), f 112 (by decide) (by decide) (by decide) (by decide)]
        exact a6
      · have h2' : j < abN A + 1 := h2
        show m2 107 j = (if j = abN A then x else abNr A j) ∧ m2 108 j = (if j = abN A then y else abNc A j) ∧ m2 109 j = (if j = abN A then z else abNi A j)
        have e77 : m2 107 j = if j = abN A then x else m1 107 j := by rw [hm2, up_ne (Or.inl (by decide)), up_ne (Or.inl (by decide)), up_ne (Or.inl (by decide)), up_at]
        have e78 : m2 108 j = if j = abN A then y else m1 108 j := by rw [hm2, up_ne (Or.inl (by decide)), up_ne (Or.inl (by decide)), up_at, up_ne (Or.inl (by decide))]
        have e79 : m2 109 j = if j = abN A then z else m1 109 j := by rw [hm2, up_ne (Or.inl (by decide)), up_at, up_ne (Or.inl (by decide)), up_ne (Or.inl (by decide))]
        rw [e77, e78, e79]
        by_cases zz : j = abN A
        · rw [if_pos zz, if_pos zz, if_pos zz, if_pos zz, if_pos zz, if_pos zz]
          exact ⟨rfl, rfl, rfl⟩
        · rw [if_neg zz, if_neg zz, if_neg zz, if_neg zz, if_neg zz, if_neg zz]
          exact a9.2 j h3 (by omega)
  · refine ⟨A, hA1, bth_of (F := -1) hI (fun Q h => ?_) (fun m1 Q h1 h => ?_)⟩
    · have h := h m hI.1.up (fun _ _ => rfl)
      refine V_seenw hB (V_hasCanton_c hB b1 b4 (by omega) (fun hp => q1e ⟨hx, fun e => h, fun _ => ⟨fun _ => ⟨hy, fun e => h, fun _ => ⟨c, b1, b4, by have := hw (by omega); omega, fun e => h, fun _ => ⟨by omega, fun e => by omega, fun e => h⟩⟩⟩, fun e => h⟩⟩) (fun e => q0e h))
    · have h := h m1 h1 (fun _ _ => rfl)
      obtain ⟨a1, a2, a3, a4, a5, a6, a7, a8, a9⟩ := id h1
      have e28 := h1.n
      have e98 : m1 98 0 = kR (abK A) 0 := by rw [← a2]; rfl
      have e48 := a9.1
      refine M_seenw hB ⟨by omega, fun e => h, fun hp => M_in_c hx (by decide) (by decide) (fun _ _ => q1e (M_in_c hy (by decide) (by have := hw (by omega); omega) (fun _ _ => q1e ⟨by omega, fun e => by omega, fun e => h⟩) (fun e => q0e h))) (fun e => q0e h)⟩
end More
