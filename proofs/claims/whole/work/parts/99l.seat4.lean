/-! ===== seating: the state with an order's seats ===== -/
def ivF (f : Int → Int) : Nat → Int → Int
  | 0, _ => 0
  | p + 1, k => if f p = k then p else ivF f p k
def PmS (n : Int) (f : Int → Int) : Prop := PmF n f ∧ ∀ k, 0 ≤ k → k < n → ∃ i, 0 ≤ i ∧ i < n ∧ f i = k
theorem ivF_e {n i : Int} {f : Int → Int} (h : PmF n f) (hi : 0 ≤ i) : ∀ p : Nat, (p : Int) ≤ n → i < p → ivF f p (f i) = i
  | 0, _, h2 => by omega
  | p + 1, h1, h2 => by
    show (if f p = f i then (p : Int) else ivF f p (f i)) = i
    by_cases z : f p = f i
    · rw [if_pos z]
      exact h.2 p i (by omega) (by omega) hi (by omega) z
    · rw [if_neg z]
      refine ivF_e h hi p (by omega) ?_
      by_cases e : i = p
      · rw [e] at z; exact absurd rfl z
      · omega
def seS (q : Int → Int) (n : Int) (f : Int → Int) : Int → Int := fun j => if 12 ≤ j ∧ j < 12 + n then ivF f n.toNat (j - 12) else q j
theorem seS_at {q f : Int → Int} {n i : Int} (h : PmF n f) (hi : 0 ≤ i ∧ i < n) : seS q n f (12 + f i) = i := by
  have hr := h.1 i hi.1 hi.2
  unfold seS
  rw [if_pos (by omega), show 12 + f i - 12 = f i by omega]
  exact ivF_e h hi.1 n.toNat (by omega) (by omega)
theorem seS_ok {K : Kn} {q f : Int → Int} (hQ : Qok K q) (hn : kNm K ≤ 6) (h : PmS (kNm K) f) : Qok K (seS q (kNm K) f) := by
  refine hQ.seat hn (fun k h1 h2 => ?_) (fun j hj => by unfold seS; rw [if_neg (by omega)])
  obtain ⟨i, i1, i2, rfl⟩ := h.2 k h1 h2
  rw [seS_at h.1 ⟨i1, i2⟩]
  exact ⟨i1, i2⟩
theorem seS_sr {K : Kn} {q f g g' wt : Int → Int} (hS : Sr K wt g q) (hn : kNm K ≤ 6) (h : PmS (kNm K) f) (hP : ∀ i, 0 ≤ i → i < kNm K → nib (g' 3) (f i) = i) (e : ∀ j, j ≠ 3 → 0 ≤ j → j ≤ 9 → g' j = g j) : Sr K wt g' (seS q (kNm K) f) := by
  refine hS.seat hn (fun k h1 h2 => ?_) e (fun j hj => by unfold seS; rw [if_neg (by omega)])
  obtain ⟨i, i1, i2, rfl⟩ := h.2 k h1 h2
  rw [seS_at h.1 ⟨i1, i2⟩, hP i i1 i2]
section Seat4
variable {X : Cx} {d : Nat} {Q0 : Mm → Prop} {K : Kn} {B q f : Int → Int} {pf : Pf}
theorem M_trySeats_11_c (hB : Bsh X.2.2.1) {m0 : Mm} (hI : MI X m0 K B pf q) (hp : 0 < kNm K) (hf : PmS (kNm K) f) {x y z u v : Int} (hz : 0 ≤ z ∧ z ≤ 2) (h106 : ∀ j, 0 ≤ j → j < kNm K → m0 106 j = f j) : ∀ (g : Nat) (m : Mm) (l6 : Int), 0 ≤ l6 → kNm K - l6 = g → TrM m0 m → m 106 = m0 106 → (∀ i, 0 ≤ i → i < l6 → m 101 (12 + f i) = i) → (∀ j, (j < 12 ∨ 12 + kNm K ≤ j) → m 101 j = q j) → (∀ m', SmM m0 m' → m' 106 = m0 106 → (∀ k, k ≠ 34 → k ≠ 39 → k ≠ 40 → m' 83 k = m 83 k) → (sideA K (endA K (wtB B) pf (seS q (kNm K) f) 22) ≠ z → Q0 m') ∧ (sideA K (endA K (wtB B) pf (seS q (kNm K) f) 22) = z → M_tryRow X (d + 9) u v m' Q0)) → M_trySeats_11 X (d + 10) x y z u v l6 m Q0 := by
  obtain ⟨b1, b2, b3⟩ := hI.2.2.2.2 hp
  have hn := hI.2.2.2.1
  have ew := hI.w
  intro g
  induction g with
  | zero =>
    intro m l6 hl hg hT e106 h1 h2 h
    have hv := b1.trm hT
    have e28 : m 83 28 = kNm K := by rw [← hv.1]; rfl
    have q1 : m 101 = seS q (kNm K) f := by
      funext j
      by_cases zj : 12 ≤ j ∧ j < 12 + kNm K
      · obtain ⟨i, i1, i2, e⟩ := hf.2 (j - 12) (by omega) (by omega)
        have ej : j = 12 + f i := by omega
        rw [ej, h1 i i1 (by omega), seS_at hf.1 ⟨i1, i2⟩]
      · rw [h2 j (by omega)]
        unfold seS
        rw [if_neg zj]
    have hQ := seS_ok b3 hn.2 hf
    refine M_trySeats_11w hB ⟨by omega, by omega, fun _ => M_layEnd_c hB b1 hT (by rw [ew]; exact b2.w) (by rw [q1]; exact hQ) (fun m3 s1 s2 s3 s4 s5 s6 => ?_), fun z => by omega⟩
    have k3 := (b1.sm s1).1
    have e98 : m3 98 0 = kR K 0 := by rw [← k3]; rfl
    have hw := b1.2.2.1.2.2.1
    rw [q1, ew] at s2
    have hcl := (end_ok (wt := wtB B) (pf := pf) b1.2.2.1 hQ).col b1.2.2.1
    have hr := sideA_r K (endA K (wtB B) pf (seS q (kNm K) f) 22)
    refine M_sideOf_c hB (by omega) (by omega) ?_
    rw [k3, s2]
    have h := h m3 s1 ((s6 106 (by decide)).trans e106) s5
    exact ⟨by omega, by omega, h.1, h.2⟩
  | succ g ih =>
    intro m l6 hl hg hT e106 h1 h2 h
    have hv := b1.trm hT
    have e28 : m 83 28 = kNm K := by rw [← hv.1]; rfl
    have hr := hf.1.1 l6 hl (by omega)
    have e6 : m 106 l6 = f l6 := by rw [e106]; exact h106 l6 hl (by omega)
    refine M_trySeats_11w hB ⟨by omega, by omega, fun z => by omega, fun _ => ⟨by omega, by omega, ?_⟩⟩
    rw [e6]
    refine ih _ (l6 + 1) (by omega) (by omega) (hT.set (by omega)) (by rw [up_off (by decide)]; exact e106) (fun i g1 g2 => ?_) (fun j hj => by rw [up_ne (Or.inr (by omega))]; exact h2 j hj) (fun m' w1 w2 w3 => h m' w1 w2 (fun k k1 k2 k3 => by rw [w3 k k1 k2 k3, up_ne (Or.inl (by decide))]))
    rw [up_at]
    by_cases zi : i = l6
    · rw [if_pos (by rw [zi]; omega), zi]
    · rw [if_neg (fun e => zi (hf.1.2 i l6 g1 (by omega) hl (by omega) (by omega)))]
      exact h1 i g1 (by omega)
end Seat4
