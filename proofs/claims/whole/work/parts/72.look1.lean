/-! ===== what is told ahead: sum, ends, ahead, met, stays ===== -/
/-- the class, as calls that only look find it -/
def CI (X : Cx) (m : Mm) (c : Nat) (K : Kn) (B : Int → Int) (pf : Pf) (q : Int → Int) : Prop := cO c ∧ m 0 6 = (c : Int) ∧ m 18 0 = (c : Int) ∧ m c 4 = kNm K ∧ (0 ≤ kNm K ∧ kNm K ≤ 6) ∧ (0 < kNm K → Cv X m c K pf ∧ Bok K B ∧ Qok K q ∧ Sr K (wtB B) (m 17) q ∧ (∀ j, 0 ≤ j → j < 4 * kNm K → m (c + 3) j = B j))
/-- the reference, as calls that only look find it -/
def MI (X : Cx) (m : Mm) (K : Kn) (B : Int → Int) (pf : Pf) (q : Int → Int) : Prop := kM m = K ∧ m 100 = B ∧ m 101 = q ∧ (0 ≤ kNm K ∧ kNm K ≤ 6) ∧ (0 < kNm K → Mv X m K pf ∧ Bok K B ∧ Qok K q)
/-- scratch of the class -/
def SmC (m m' : Mm) : Prop := m' 18 0 = m 18 0 ∧ m' 18 1 = m 18 1 ∧ Fr [18, 19, 20, 66, 67, 68, 69, 70, 71, 72, 74, 75, 76, 80, 81] m m'
theorem SmC.rf (m : Mm) : SmC m m := ⟨rfl, rfl, Fr.rf _ _⟩
theorem SmC.tr {m m1 m2 : Mm} (h : SmC m m1) (h2 : SmC m1 m2) : SmC m m2 := ⟨h2.1.trans h.1, h2.2.1.trans h.2.1, h.2.2.tr h2.2.2⟩
theorem SmC.of {S : List Nat} {m m1 : Mm} (h0 : m1 18 0 = m 18 0) (h1 : m1 18 1 = m 18 1) (h : Fr S m m1) (hS : ∀ a ∈ S, a ∈ [18, 19, 20, 66, 67, 68, 69, 70, 71, 72, 74, 75, 76, 80, 81]) : SmC m m1 := ⟨h0, h1, h.wd hS⟩
theorem SmC.fr {S : List Nat} {m m1 : Mm} (h : Fr S m m1) (hS : ∀ a ∈ S, a ∈ [19, 20, 66, 67, 68, 69, 70, 71, 72, 74, 75, 76, 80, 81]) : SmC m m1 := by
  have e : m1 18 = m 18 := h 18 (fun q => by have := hS _ q; simp at this)
  exact ⟨by rw [e], by rw [e], h.wd (fun a q => by have := hS _ q; simp at this ⊢; omega)⟩
theorem Sc.sm {s : Nat} (hs : s = 69 ∨ s = 76) {m m1 : Mm} (h : Sc s m m1) : SmC m m1 := ⟨h.1, h.2.1, h.2.2.wd (fun a q => by simp at q ⊢; omega)⟩
theorem CI.sm {X : Cx} {m m' : Mm} {c : Nat} {K : Kn} {B q : Int → Int} {pf : Pf} (h : CI X m c K B pf q) (h2 : SmC m m') : CI X m' c K B pf q := by
  obtain ⟨a1, a2, a3, a4, a5, a6⟩ := h
  have ne : ∀ a, a < 18 → m' a = m a := fun a ha => h2.2.2 a (by simp; omega)
  refine ⟨a1, by rw [ne 0 (by omega)]; exact a2, h2.1.trans a3, by rw [ne c (by omega)]; exact a4, a5, fun hp => ?_⟩
  obtain ⟨b1, b2, b3, b4, b5⟩ := a6 hp
  refine ⟨b1.sc h2.1 h2.2.1 h2.2.2 (fun a ha => by simp at ha; omega), b2, b3, by rw [ne 17 (by omega)]; exact b4, fun j z1 z2 => by rw [ne (c + 3) (by omega)]; exact b5 j z1 z2⟩
theorem MI.sm {X : Cx} {m m' : Mm} {K : Kn} {B q : Int → Int} {pf : Pf} (h : MI X m K B pf q) (h2 : SmM m m') : MI X m' K B pf q := by
  obtain ⟨a1, a2, a3, a4, a5⟩ := h
  refine ⟨(kM_of h2.1 (h2.2 _ (by decide)) (h2.2 _ (by decide))).trans a1, by rw [h2.2 100 (by decide)]; exact a2, by rw [h2.2 101 (by decide)]; exact a3, a4, fun hp => ?_⟩
  obtain ⟨b1, b2, b3⟩ := a5 hp
  exact ⟨b1.sm h2, b2, b3⟩
theorem MI.sc {X : Cx} {m m' : Mm} {K : Kn} {B q : Int → Int} {pf : Pf} (h : MI X m K B pf q) (h2 : ∀ a, 83 ≤ a → a < 114 → m' a = m a) : MI X m' K B pf q := by
  obtain ⟨a1, a2, a3, a4, a5⟩ := h
  have e : kM m' = kM m := by unfold kM; rw [h2 98 (by omega) (by omega), h2 99 (by omega) (by omega), h2 83 (by omega) (by omega)]
  refine ⟨e.trans a1, by rw [h2 100 (by omega) (by omega)]; exact a2, by rw [h2 101 (by omega) (by omega)]; exact a3, a4, fun hp => ?_⟩
  obtain ⟨⟨c1, c2, c3, c4⟩, b2, b3⟩ := a5 hp
  exact ⟨⟨e.trans c1, c2.ls ⟨by rw [h2 83 (by omega) (by omega)], fun a x y => h2 a (by omega) (by omega)⟩, c3, c4⟩, b2, b3⟩
theorem Qok.col {K : Kn} {q : Int → Int} (hQ : Qok K q) (hK : Kok K) : 0 ≤ q 22 ∧ q 22 ≤ 8 := by
  have h1 := hQ.2.2.2.2.2
  have h2 := hK.2.2.1
  omega
theorem Qok.off {K : Kn} {q : Int → Int} (hQ : Qok K q) (hK : Kok K) : 0 ≤ q 18 ∧ q 18 < 64 := by
  have h1 := hQ.2.1
  have h2 := pw_le hK.1
  omega
theorem slides_ok {K : Kn} {wt q : Int → Int} {pf : Pf} (hK : Kok K) (f : Nat) : ∀ q, Qok K q → q 21 + f ≤ kR K 3 → Qok K (slidesA K wt pf f q) ∧ slidesA K wt pf f q 21 = q 21 + f := by
  induction f with
  | zero => intro q hQ _; exact ⟨hQ, by show q 21 = _; omega⟩
  | succ f ih =>
    intro q hQ hf
    have e : slideA K wt pf q 21 = q 21 + 1 := rfl
    obtain ⟨h1, h2⟩ := ih (slideA K wt pf q) (slideA_ok hK hQ (by omega)) (by rw [e]; omega)
    exact ⟨h1, by show slidesA K wt pf f (slideA K wt pf q) 21 = _; rw [h2, e]; omega⟩
theorem end_ok {K : Kn} {wt q : Int → Int} {pf : Pf} (hK : Kok K) (hQ : Qok K q) : Qok K (endA K wt pf q) := by
  have h := hQ.2.2.2.2.1
  exact (slides_ok (q := q) hK _ q hQ (by omega)).1
theorem off_of {K : Kn} {q : Int → Int} (hQ : Qok K q) (hK : Kok K) : iA (pw (kNm K) - 1) (iX (pw (kNm K) - 1 - q 18) (-1)) = q 18 := by
  have h1 := hQ.2.1
  have h2 := hK.1
  obtain ⟨a, ha⟩ : ∃ a : Nat, kNm K = (a : Int) := ⟨(kNm K).toNat, by omega⟩
  obtain ⟨b, hb⟩ : ∃ b : Nat, q 18 = (b : Int) := ⟨(q 18).toNat, by omega⟩
  rw [ha, hb] at h1 ⊢
  have h3 := pw_le h2
  rw [ha] at h3
  exact (by decide +kernel : ∀ a : Nat, a ≤ 6 → ∀ b : Nat, b < 64 → (b : Int) < pw (a : Int) → iA (pw (a : Int) - 1) (iX (pw (a : Int) - 1 - (b : Int)) (-1)) = (b : Int)) a (by omega) b (by omega) h1.2
def FSum (K : Kn) (B : Int → Int) (pf : Pf) (q : Int → Int) : Int := if kNm K = 0 then -1000000 else sumA K (wtB B) pf q
def FEnds (K : Kn) (B : Int → Int) (pf : Pf) (q : Int → Int) (x : Int) : Int := if kNm K = 0 ∨ x < 0 ∨ 2 < x then -1 else if x = 0 then endA K (wtB B) pf q 22 else if x = 1 then sideA K (endA K (wtB B) pf q 22) else endA K (wtB B) pf q 18
def FAhead (K : Kn) (B : Int → Int) (pf : Pf) (q : Int → Int) (x : Int) : Int := if kNm K = 0 ∨ x < 0 ∨ 20 < x then -1 else slidesA K (wtB B) pf (min x (kR K 3 - q 21)).toNat q 22
def FMet (K : Kn) (B : Int → Int) (pf : Pf) (q : Int → Int) : Int := if kNm K = 0 then -1 else metA K (wtB B) pf (kR K 3 - q 21).toNat q 0
/-- heels of one are changed -/
def hlBy (q : Int → Int) (k v : Int) : Int → Int := fun j => if j = 6 + k then v else q j
def staysF (K : Kn) (B : Int → Int) (pf : Pf) (q : Int → Int) (x : Int) : Nat → Int → Int
  | 0, _ => -1
  | f + 1, h => if bit (endA K (wtB B) pf (hlBy q x h) 18) x = 0 then h else staysF K B pf q x f (h + 1)
def FStays (K : Kn) (B : Int → Int) (pf : Pf) (q : Int → Int) (x : Int) : Int := if x < 0 ∨ kNm K ≤ x then -1 else if bit (q 18) x = 1 then -1 else staysF K B pf q x 10 0
section Look1
variable {X : Cx} {d : Nat} {m : Mm} {Q : Int → Mm → Prop} {c : Nat} {K : Kn} {B q : Int → Int} {pf : Pf}
theorem CI.mem (h : CI X m c K B pf q) : 0 ≤ m c 4 ∧ m c 4 ≤ 6 := by rw [h.2.2.2.1]; exact h.2.2.2.2.1
theorem MI.n (h : MI X m K B pf q) : m 83 28 = kNm K := by rw [← h.1]; rfl
theorem V_sum_c (hB : Bsh X.2.2.1) (hI : CI X m c K B pf q) (h : ∀ m', SmC m m' → Q (FSum K B pf q) m') : V_sum X (d + 12) m Q := by
  have hn := hI.mem
  have h4 := hI.2.2.2.1
  refine V_sumw hB (V_hasCanton_c hB hI.1 hI.2.1 hn (fun hp => q1e ?_) (fun h0 => q0e ?_))
  · obtain ⟨b1, b2, b3, b4, -⟩ := hI.2.2.2.2.2 (by omega)
    refine S_sumOf_c hB b1 (Or.inl rfl) b2.w b4 b3 (fun m' hf => ?_)
    have := h m' (SmC.fr hf (by decide))
    unfold FSum at this
    rw [if_neg (by omega)] at this
    exact this
  · have := h m (SmC.rf m)
    unfold FSum at this
    rw [if_pos (by omega)] at this
    exact this
theorem M_sum_c (hB : Bsh X.2.2.1) (hI : MI X m K B pf q) (h : ∀ m', SmM m m' → Q (FSum K B pf q) m') : M_sum X (d + 12) m Q := by
  have hn := hI.n
  have hr := hI.2.2.2.1
  refine M_sumw hB ⟨by omega, fun hp => ?_, fun h0 => ?_⟩
  · obtain ⟨b1, b2, b3⟩ := hI.2.2.2.2 (by omega)
    obtain ⟨e1, e2, e3, -, -⟩ := hI
    have ew : wtM m = wtB B := by rw [← e2]; rfl
    rw [← e3] at b3
    refine M_sumNow_c hB b1 (by rw [ew]; exact b2.w) b3 (fun m' hf => ?_)
    have := h m' ⟨fun k _ => by rw [hf 83 (by decide)], hf.wd (by decide)⟩
    unfold FSum at this
    rw [if_neg (by omega)] at this
    rw [ew, e3]
    exact this
  · have := h m (SmM.rf m)
    unfold FSum at this
    rw [if_pos (by omega)] at this
    exact this
theorem O_atEnd_c (hB : Bsh X.2.2.1) (hv : Cv X m c K pf) (hBk : Bok K B) (hQ : Qok K q) (hS : Sr K (wtB B) (m 17) q) {x : Int} (hx : 0 ≤ x ∧ x ≤ 2) (h : ∀ m', SmC m m' → Q (if x = 0 then endA K (wtB B) pf q 22 else if x = 1 then sideA K (endA K (wtB B) pf q 22) else endA K (wtB B) pf q 18) m') : O_atEnd X (d + 9) x m Q := by
  refine O_atEndw hB (T_copy_c hB (by decide) (by decide) (by decide) ?_)
  have hc : Sc 69 m (cpS m 69 17) := cp_sc (Or.inl rfl)
  refine S_sideAtEnd_c hB (hv.of (Or.inr (Or.inl rfl)) hc) (Or.inr (Or.inl rfl)) hBk.w (Sr.cp hS (f := q)) hQ (fun m1 g1 g2 g3 => ?_)
  have hc2 := hc.tr g3
  have := h m1 (hc2.sm (Or.inl rfl))
  refine ⟨by omega, fun z0 => ⟨fun z1 => ?_, fun z1 => ?_⟩, fun z0 => ?_⟩
  · refine S_everyone_c hB (hv.of (Or.inr (Or.inl rfl)) hc2) ?_
    rw [if_neg z0, if_neg z1] at this
    rw [g1.2.1, off_of (end_ok hv.2.2.2.2.1 hQ) hv.2.2.2.2.1]
    exact this
  · rw [if_neg z0, if_pos z1] at this
    exact this
  · rw [if_pos z0] at this
    rw [g1.2.2.2.2.2.1]
    exact this
theorem V_ends_c (hB : Bsh X.2.2.1) (hI : CI X m c K B pf q) {x : Int} (hx : R3 x) (h : ∀ m', SmC m m' → Q (FEnds K B pf q x) m') : V_ends X (d + 12) x m Q := by
  have hn := hI.mem
  have h4 := hI.2.2.2.1
  have no : (kNm K = 0 ∨ x < 0 ∨ 2 < x) → Q (-1) m := fun z => by
    have := h m (SmC.rf m)
    unfold FEnds at this
    rw [if_pos z] at this
    exact this
  refine V_endsw hB (V_hasCanton_c hB hI.1 hI.2.1 hn (fun hp => q1e ⟨hx, fun z => no (by omega), fun z1 => ⟨fun z => no (by omega), fun z2 => ?_⟩⟩) (fun h0 => q0e (no (by omega))))
  obtain ⟨b1, b2, b3, b4, -⟩ := hI.2.2.2.2.2 (by omega)
  refine O_atEnd_c hB b1 b2 b3 b4 ⟨z1, z2⟩ (fun m' hs => ?_)
  have := h m' hs
  unfold FEnds at this
  rw [if_neg (by omega)] at this
  exact this
theorem M_ends_c (hB : Bsh X.2.2.1) (hI : MI X m K B pf q) {x : Int} (hx : R3 x) (h : ∀ m', SmM m m' → Q (FEnds K B pf q x) m') : M_ends X (d + 12) x m Q := by
  have hn := hI.n
  have hr := hI.2.2.2.1
  have no : (kNm K = 0 ∨ x < 0 ∨ 2 < x) → Q (-1) m := fun z => by
    have := h m (SmM.rf m)
    unfold FEnds at this
    rw [if_pos z] at this
    exact this
  refine M_endsw hB ⟨by omega, fun h0 => no (by omega), fun hp => M_in_c hx (by decide) (by decide) (fun z1 z2 => q1n ?_) (fun z => q0n (no (by omega)))⟩
  obtain ⟨b1, b2, b3⟩ := hI.2.2.2.2 (by omega)
  obtain ⟨e1, e2, e3, -, -⟩ := hI
  have ew : wtM m = wtB B := by rw [← e2]; rfl
  refine M_putAside_t hB (fun m1 t1 t2 t3 _ _ => ?_)
  have q1 : m1 101 = q := t2.trans e3
  refine M_layEnd_c hB b1 t1 (by rw [ew]; exact b2.w) (by rw [q1]; exact b3) (fun m3 s1 s2 s3 s4 _ _ => ?_)
  rw [q1, ew] at s2 s3
  have hF := h m3 s1
  unfold FEnds at hF
  rw [if_neg (by omega)] at hF
  have k3 := (b1.sm s1).1
  have e98 : m3 98 0 = kR K 0 := by rw [← k3]; rfl
  have hw := b1.2.2.1.2.2.1
  have hcl := (end_ok (wt := wtB B) (pf := pf) b1.2.2.1 b3).col b1.2.2.1
  refine ⟨hx, fun z0 => ⟨fun z3 => ?_, fun z3 => ?_⟩, fun z0 => ?_⟩
  · rw [if_neg z0, if_neg z3] at hF
    rw [s3]; exact hF
  · rw [if_neg z0, if_pos z3] at hF
    refine M_sideOf_c hB (by omega) (by omega) ?_
    rw [k3, s2]; exact hF
  · rw [if_pos z0] at hF
    rw [s2]; exact hF
end Look1
