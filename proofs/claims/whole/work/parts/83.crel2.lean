/-! ===== a row further and an act back; the reference's acts ===== -/
theorem fellA_r {K : Kn} {wt q : Int → Int} {pf : Pf} (hK : Kok K) : 0 ≤ fellA K wt pf q ∧ fellA K wt pf q < 64 := by
  have hn := hK.1
  unfold fellA
  split
  · have h1 := fellTo_le q (kB K (4 * bumpQ K wt pf q + 2)) (kNm K).toNat
    have h2 := pw2 (kNm K).toNat (by omega)
    omega
  · decide
def MR (m : Mm) (q : Int → Int) (AL : List (Int → Int)) : Prop := m 101 = q ∧ m 83 36 = AL.length ∧ AL.length ≤ 40 ∧ ∀ i : Nat, i < AL.length → ∀ j, 0 ≤ j → j < 205 → m 103 (205 * i + j) = al AL i j
/-- what calls of the reference that change how it is leave -/
def FmS (m m' : Mm) : Prop := (∀ k, ¬ scF k → k ≠ 36 → m' 83 k = m 83 k) ∧ Fr [83, 92, 93, 101, 103, 104, 105, 106, 110, 111] m m'
theorem FmS.rf (m : Mm) : FmS m m := ⟨fun _ _ _ => rfl, Fr.rf _ _⟩
theorem FmS.tr {m m1 m2 : Mm} (h : FmS m m1) (h2 : FmS m1 m2) : FmS m m2 := ⟨fun k a b => (h2.1 k a b).trans (h.1 k a b), h.2.tr h2.2⟩
theorem Mv.fms {X : Cx} {m m' : Mm} {K : Kn} {pf : Pf} (h : Mv X m K pf) (hf : FmS m m') : Mv X m' K pf := by
  obtain ⟨a1, a2, a3, a4⟩ := h
  have e : kM m' = kM m := by
    unfold kM
    rw [hf.2 98 (by decide), hf.2 99 (by decide), hf.1 27 (by unfold scF; omega) (by decide), hf.1 28 (by unfold scF; omega) (by decide), hf.1 29 (by unfold scF; omega) (by decide)]
  exact ⟨e.trans a1, a2.ls ⟨hf.1 32 (by unfold scF; omega) (by decide), fun a x y => hf.2 a (by simp; omega)⟩, a3, a4⟩
section Crel2
variable {X : Cx} {d : Nat} {m : Mm} {Q : Int → Mm → Prop} {Q0 : Mm → Prop} {c : Nat} {K : Kn} {B q : Int → Int} {pf : Pf} {AL : List (Int → Int)} {r : Int}
theorem V_goARow_c (hB : Bsh X.2.2.1) (hv : Cv X m c K pf) (hBk : Bok K B) (hQ : Qok K q) (hrow : q 21 < kR K 3) (hC : CR m K B q AL (r + 1)) (hr : 0 ≤ r) (h : ∀ m', CR m' K B (passA K (wtB B) pf q) AL r → FcS m m' → m' 17 10 = m 17 10 + 1 → Q0 m') : V_goARow X (d + 8) m Q0 := by
  obtain ⟨a1, a2, a3, a4, a5, a6, a7, a8⟩ := hC
  have hK := hv.2.2.2.2.1
  have hn := hK.1
  refine V_goARoww hB (S_step_c hB hv (Or.inl rfl) hBk.w a1 hQ (fun m1 g1 g2 g3 g4 g5 g6 => ?_))
  have f22 : m1 22 = m 22 := g6.2.2 22 (by decide)
  have f21 : m1 21 = m 21 := g6.2.2 21 (by decide)
  have e8 : m1 17 8 = slideA K (wtB B) pf q 22 := g1.2.2.2.2.2.1
  have hsm := sumA_r hv.2.2.2.2.2 hK hQ hBk.w
  have hfe := fellA_r (wt := wtB B) (q := q) (pf := pf) hK
  have hco := (slideA_ok (wt := wtB B) (pf := pf) hK hQ hrow).col hK
  have hlog : iA (m1 17 10) 1023 = m 17 10 % 1024 := by rw [iA_1023, g2]
  refine H_noteRoww hB ⟨by rw [hlog]; omega, ?_⟩
  rw [hlog, g3, g4, e8, pk_e (by omega) (by omega) (by omega)]
  obtain ⟨m2, hm2⟩ : ∃ m2, m2 = up (up m1 22 (m 17 10 % 1024) (pk (slideA K (wtB B) pf q 22) (sumA K (wtB B) pf q) (fellA K (wtB B) pf q))) 17 10 (m1 17 10 + 1) := ⟨_, rfl⟩
  rw [← hm2]
  have e10 : m2 17 10 = m 17 10 + 1 := by rw [hm2, up_same, g2]
  have e17 : ∀ j, j ≠ 10 → m2 17 j = m1 17 j := fun j hj => by rw [hm2, up_ne (Or.inr hj), up_ne (Or.inl (by decide))]
  have e22 : m2 22 = (fun j => if j = m 17 10 % 1024 then pk (slideA K (wtB B) pf q 22) (sumA K (wtB B) pf q) (fellA K (wtB B) pf q) else m 22 j) := by
    funext j
    rw [hm2, up_ne (Or.inl (by decide)), up_at, f22]
  have eo : ∀ a, a ≠ 17 → a ≠ 22 → m2 a = m1 a := fun a h1 h2 => by rw [hm2, up_off h1, up_off h2]
  have eo2 : ∀ a, a ≠ 17 → a ≠ 18 → a ≠ 19 → a ≠ 20 → a ≠ 22 → m2 a = m a := fun a h1 h2 h3 h4 h5 => by rw [eo a h1 h5]; exact g6.2.2 a (by simp; omega)
  have e21 : m2 21 = m 21 := eo2 21 (by decide) (by decide) (by decide) (by decide) (by decide)
  have e23 : m2 23 = m 23 := eo2 23 (by decide) (by decide) (by decide) (by decide) (by decide)
  have esl : ∀ i : Nat, m2 (slotN (m 21 4) AL.length i) = m (slotN (m 21 4) AL.length i) := fun i => by
    have := slot_r (m 21 4) AL.length i
    exact eo2 _ (by omega) (by omega) (by omega) (by omega) (by omega)
  have h24 := a2.1.1
  have hlgs : ∀ i : Nat, i ≤ AL.length → lgs m2 AL.length i = lgs m AL.length i + (if i = AL.length then 1 else 0) := fun i hi => by
    unfold lgs
    rw [e21]
    by_cases z : i < AL.length
    · rw [if_pos z, if_pos z, if_neg (by omega), esl]
      omega
    · rw [if_neg z, if_neg z, if_pos (by omega), e10]
  refine h m2 ⟨?_, ?_, by rw [e21]; exact a3, a4, by rw [e21]; exact a5, by rw [e23]; exact a6, fun i hi => ?_, fun i j h1 h2 => ?_⟩ ⟨?_, ?_, by rw [e21], fun a ha => ?_⟩ e10
  · exact (g1.cong (fun j j1 j2 => e17 j (by omega))).cq hn.2 (fun j j1 j2 => pass_low h24 ⟨j1, j2⟩)
  · rw [e22, e10]
    exact a2.pass (by omega) (by omega) hfe
  · rw [e21, esl]
    obtain ⟨b1, b2⟩ := a7 i hi
    have := a8 i AL.length (by omega) (Nat.le_refl _)
    have e1 : lgs m AL.length AL.length = m 17 10 := by unfold lgs; rw [if_neg (by omega)]
    have e2 : lgs m AL.length i = m (slotN (m 21 4) AL.length i) 10 := by unfold lgs; rw [if_pos hi]
    rw [e1, e2, if_pos ⟨hi, rfl⟩] at this
    refine ⟨b1, ?_⟩
    rw [e22]
    exact b2.fresh (by omega) (by omega)
  · rw [hlgs i (by omega), hlgs j h2]
    have := a8 i j h1 h2
    by_cases z : i < j ∧ j = AL.length
    · rw [if_pos z] at this ⊢
      rw [if_pos z.2, if_neg (by omega)]
      omega
    · rw [if_neg z] at this ⊢
      split <;> split <;> omega
  · rw [eo 18 (by decide) (by decide)]
    exact g6.1
  · rw [eo 18 (by decide) (by decide)]
    exact g6.2.1
  · exact eo2 a (by omega) (by omega) (by omega) (by omega) (by omega)
theorem H_takeActBack_c (hB : Bsh X.2.2.1) (hC : CR m K B q AL r) (hr : 0 ≤ r) (hn : 0 < AL.length) (h : ∀ m', CR m' K B (al AL (AL.length - 1)) AL.dropLast 0 → FcS m m' → m' 17 10 ≤ m 17 10 → Q0 m') : H_takeActBack X (d + 1) m Q0 := by
  obtain ⟨a1, a2, a3, a4, a5, a6, a7, a8⟩ := hC
  obtain ⟨nx, hnx⟩ : ∃ nx, nx = m 21 4 := ⟨_, rfl⟩
  rw [← hnx] at a5 a7
  have hy : iRm (nx + 39) 40 = (nx + 39) % 40 := iRm40 (by omega)
  obtain ⟨s, hs⟩ : ∃ s, s = 26 + ((nx + 39) % 40).toNat := ⟨_, rfl⟩
  have hsO : sO s := by right; right; left; omega
  have hsl : slotN nx AL.length (AL.length - 1) = s := by rw [hs]; unfold slotN; omega
  refine H_takeActBackw hB ⟨by omega, fun e => by omega, fun _ => ?_⟩
  rw [← hnx, hy]
  refine ⟨by omega, s, hsO, by rw [a6 _ (by omega) (by omega), hs]; omega, T_copy_c hB (by omega) (by decide) hsO ?_⟩
  obtain ⟨m1, hm1⟩ : ∃ m1, m1 = cpS (up m 21 4 ((nx + 39) % 40)) 17 s := ⟨_, rfl⟩
  rw [← hm1]
  have o1 : ∀ a, a ≠ 17 → m1 a = up m 21 4 ((nx + 39) % 40) a := fun a ha => by rw [hm1]; exact cp_fr _ 17 s a (by simp; exact ha)
  have f210 : m1 21 0 = AL.length := by rw [o1 21 (by decide), up_ne (Or.inr (by decide))]; exact a3
  rw [f210]
  obtain ⟨m', hm'⟩ : ∃ m', m' = up m1 21 0 ((AL.length : Int) - 1) := ⟨_, rfl⟩
  rw [← hm']
  have e0 : m' 21 0 = (AL.length : Int) - 1 := by rw [hm']; exact up_same _ _ _ _
  have e4 : m' 21 4 = (nx + 39) % 40 := by rw [hm', up_ne (Or.inr (by decide)), o1 21 (by decide)]; exact up_same _ _ _ _
  have ek : ∀ k, k ≠ 0 → k ≠ 4 → m' 21 k = m 21 k := fun k k0 k4 => by rw [hm', up_ne (Or.inr k0), o1 21 (by decide), up_ne (Or.inr k4)]
  have eo : ∀ a, a ≠ 21 → a ≠ 17 → m' a = m a := fun a h1 h2 => by rw [hm', up_off h1, o1 a h2, up_off h1]
  have e17 : ∀ j, 0 ≤ j → j ≤ 10 → m' 17 j = m s j := fun j h1 h2 => by
    rw [hm', up_off (by decide), hm1]
    unfold cpS
    rw [if_pos ⟨rfl, h1, h2⟩, up_ne (Or.inl (by omega))]
  have e22 : m' 22 = m 22 := eo 22 (by decide) (by decide)
  have hl : AL.dropLast.length = AL.length - 1 := by simp
  obtain ⟨b1, b2⟩ := a7 (AL.length - 1) (by omega)
  rw [hsl] at b1 b2
  have hal : ∀ i, i < AL.length - 1 → al AL.dropLast i = al AL i := fun i hi => by
    unfold al
    rw [List.getD_eq_getElem?_getD, List.getD_eq_getElem?_getD, List.getElem?_dropLast, if_pos hi]
  have hslot : ∀ i : Nat, i < AL.length - 1 → slotN (m' 21 4) AL.dropLast.length i = slotN nx AL.length i := fun i hi => by
    rw [e4, hl]
    unfold slotN
    omega
  have hlg : ∀ i : Nat, i ≤ AL.length - 1 → lgs m' AL.dropLast.length i = lgs m AL.length i := fun i hi => by
    unfold lgs
    by_cases z : i < AL.length - 1
    · rw [if_pos (by omega), if_pos (by omega), hslot i z, ← hnx, eo _ (by have := slot_r nx AL.length i; omega) (by have := slot_r nx AL.length i; omega)]
    · rw [if_neg (by omega), if_pos (by omega), e17 10 (by decide) (by decide), ← hnx]
      have ei : i = AL.length - 1 := by omega
      rw [ei, hsl]
  have h10 : m' 17 10 ≤ m 17 10 := by
    have h6 := (a8 (AL.length - 1) AL.length (by omega) (Nat.le_refl _)).1
    unfold lgs at h6
    rw [if_neg (by omega), if_pos (by omega), ← hnx, hsl] at h6
    rw [e17 10 (by decide) (by decide)]
    omega
  refine h m' ⟨b1.cong (fun j j1 j2 => e17 j j1 (by omega)), by rw [e22, e17 10 (by decide) (by decide)]; exact b2, by rw [e0, hl]; omega, by omega, by rw [e4]; omega, by rw [eo 23 (by decide) (by decide)]; exact a6, fun i hi => ?_, fun i j h1 h2 => ?_⟩ ⟨by rw [eo 18 (by decide) (by decide)], by rw [eo 18 (by decide) (by decide)], ek 1 (by decide) (by decide), fun a ha => eo a (by omega) (by omega)⟩ h10
  · rw [hslot i (by omega), hal i (by omega), e22, eo _ (by have := slot_r nx AL.length i; omega) (by have := slot_r nx AL.length i; omega)]
    exact a7 i (by omega)
  · rw [hlg i (by omega), hlg j (by omega)]
    have := a8 i j h1 (by omega)
    rw [if_neg (by omega)] at this
    refine ⟨this.1, ?_⟩
    split <;> omega
/-! the reference -/
theorem M_keep_54_c (hB : Bsh X.2.2.1) {m0 : Mm} {A : Int} (hA : 0 ≤ A ∧ A < 40) : ∀ (f : Nat) (m : Mm) (l1 : Int), 0 ≤ l1 → 205 - l1 = f → m 83 36 = A → m 101 = m0 101 → (∀ m', (∀ j, 0 ≤ j → j < 205 → m' 103 (205 * A + j) = if j < l1 then m 103 (205 * A + j) else m0 101 j) → (∀ j, (j < 205 * A ∨ 205 * A + 205 ≤ j) → m' 103 j = m 103 j) → m' 83 36 = A + 1 → (∀ k, k ≠ 36 → m' 83 k = m 83 k) → Fr [83, 103] m m' → Q0 m') → M_keep_54 X d l1 m Q0 := by
  intro f
  induction f with
  | zero =>
    intro m l1 hl hf e36 e101 h
    refine M_keep_54w hB ⟨by omega, fun _ => h _ (fun j h1 h2 => ?_) (fun j _ => up_ne (Or.inl (by decide))) (by rw [up_same, e36]) (fun k hk => up_ne (Or.inr hk)) ((Fr.rf _ _).up (by simp)), fun e => by omega⟩
    rw [up_ne (Or.inl (by decide)), if_pos (by omega)]
  | succ f ih =>
    intro m l1 hl hf e36 e101 h
    refine M_keep_54w hB ⟨by omega, fun e => by omega, fun _ => ⟨by omega, by omega, ?_⟩⟩
    rw [e36, e101]
    refine ih _ (l1 + 1) (by omega) (by omega) (by rw [up_ne (Or.inl (by decide))]; exact e36) (by rw [up_off (by decide)]; exact e101) (fun m' g1 g2 g3 g4 g5 => h m' (fun j h1 h2 => ?_) (fun j hj => by rw [g2 j hj, up_ne (Or.inr (by omega))]) g3 (fun k hk => by rw [g4 k hk, up_ne (Or.inl (by decide))]) (((Fr.rf _ _).up (by simp)).tr g5))
    rw [g1 j h1 h2]
    by_cases z : j < l1
    · rw [if_pos (by omega), if_pos z, up_ne (Or.inr (by omega))]
    · rw [if_neg z]
      by_cases z2 : j = l1
      · rw [if_pos (by omega), z2, up_same]
      · rw [if_neg (by omega)]
theorem M_keep_13_c (hB : Bsh X.2.2.1) {m0 : Mm} : ∀ (f : Nat) (m : Mm) (l1 : Int), 205 ≤ l1 → 8200 - l1 = f → (∀ j, m 103 j = if 0 ≤ j ∧ j < l1 - 205 then m0 103 (j + 205) else m0 103 j) → (∀ m', (∀ j, m' 103 j = if 0 ≤ j ∧ j < 7995 then m0 103 (j + 205) else m0 103 j) → (∀ k, k ≠ 36 → m' 83 k = m 83 k) → m' 83 36 = m 83 36 - 1 → Fr [83, 103] m m' → M_keep_54 X d 0 m' Q0) → M_keep_13 X d l1 m Q0 := by
  intro f
  induction f with
  | zero =>
    intro m l1 hl hf h1 h
    have e : l1 = 8200 := by omega
    rw [e] at h1
    exact M_keep_13w hB ⟨by omega, fun _ => h _ (fun j => by rw [up_ne (Or.inl (by decide))]; exact h1 j) (fun k hk => up_ne (Or.inr hk)) (up_same _ _ _ _) ((Fr.rf _ _).up (by simp)), fun e => by omega⟩
  | succ f ih =>
    intro m l1 hl hf h1 h
    refine M_keep_13w hB ⟨by omega, fun e => by omega, fun _ => ⟨by omega, by omega, ih _ (l1 + 1) (by omega) (by omega) (fun j => ?_) (fun m' g1 g2 g3 g4 => h m' g1 (fun k hk => by rw [g2 k hk, up_ne (Or.inl (by decide))]) (by rw [g3, up_ne (Or.inl (by decide))]) (((Fr.rf _ _).up (by simp)).tr g4))⟩⟩
    have e1 : m 103 l1 = m0 103 l1 := by rw [h1 l1, if_neg (by omega)]
    rw [up_at, e1]
    by_cases z : j = l1 - 205
    · rw [if_pos z, if_pos (by omega)]
      congr 1
      omega
    · rw [if_neg z, h1 j]
      by_cases z2 : 0 ≤ j ∧ j < l1 - 205
      · rw [if_pos z2, if_pos (by omega)]
      · rw [if_neg z2, if_neg (by omega)]
theorem M_keep_c (hB : Bsh X.2.2.1) (hM : MR m q AL) (h : ∀ m', MR m' q (kpL AL q) → FmS m m' → Q0 m') : M_keep X d m Q0 := by
  obtain ⟨a1, a2, a3, a4⟩ := hM
  refine M_keepw hB ⟨by omega, fun z => ?_, fun z => ?_⟩
  · have hlen : (kpL AL q).length = AL.length + 1 := by
      unfold kpL
      rw [if_neg (by omega)]
      simp
    refine M_keep_54_c hB (m0 := m) (A := AL.length) (by omega) 205 m 0 (by omega) (by omega) a2 rfl (fun m' g1 g2 g3 g4 g5 => h m' ⟨by rw [g5 101 (by decide)]; exact a1, by rw [g3, hlen]; omega, by omega, fun i hi j h1 h2 => ?_⟩ ⟨fun k _ hk => g4 k hk, g5.wd (by decide)⟩)
    by_cases z2 : i = AL.length
    · have e : al (kpL AL q) i = q := by
        unfold al kpL
        rw [if_neg (by omega), z2, List.getD_eq_getElem?_getD, List.getElem?_append_right (Nat.le_refl _), Nat.sub_self]
        rfl
      rw [e, z2, g1 j h1 h2, if_neg (by omega), a1]
    · have e : al (kpL AL q) i = al AL i := by
        unfold al kpL
        rw [if_neg (by omega), List.getD_eq_getElem?_getD, List.getD_eq_getElem?_getD, List.getElem?_append_left (by omega)]
      rw [e, g2 _ (by omega)]
      exact a4 i (by omega) j h1 h2
  · have h40 : AL.length = 40 := by omega
    have hlen : (kpL AL q).length = 40 := by
      unfold kpL
      rw [if_pos h40]
      simp [h40]
    refine M_keep_13_c hB (m0 := m) 7995 m 205 (by omega) (by omega) (fun j => by rw [if_neg (by omega)]) (fun m1 c1 c2 c3 c4 => ?_)
    refine M_keep_54_c hB (m0 := m1) (A := 39) (by omega) 205 m1 0 (by omega) (by omega) (by omega) rfl (fun m' g1 g2 g3 g4 g5 => h m' ⟨by rw [g5 101 (by decide), c4 101 (by decide)]; exact a1, by rw [g3, hlen]; rfl, by omega, fun i hi j h1 h2 => ?_⟩ ⟨fun k _ hk => (g4 k hk).trans (c2 k hk), (c4.tr g5).wd (by decide)⟩)
    by_cases z2 : i = 39
    · have e : al (kpL AL q) i = q := by
        unfold al kpL
        rw [if_pos h40, z2, List.getD_eq_getElem?_getD, List.getElem?_append_right (by simp [h40])]
        simp [h40]
      have e2 : (205 : Int) * ((39 : Nat) : Int) = 205 * 39 := rfl
      rw [e, z2, e2, g1 j h1 h2, if_neg (by omega), c4 101 (by decide), a1]
    · have e : al (kpL AL q) i = al AL (i + 1) := by
        unfold al kpL
        rw [if_pos h40, List.getD_eq_getElem?_getD, List.getD_eq_getElem?_getD, List.getElem?_append_left (by simp [h40]; omega), List.getElem?_drop, Nat.add_comm]
      rw [e, g2 _ (by omega), c1, if_pos (by omega), ← a4 (i + 1) (by omega) j h1 h2]
      congr 1
      omega
theorem M_passRow_68_c (hB : Bsh X.2.2.1) {l1 l2 : Int} {o : Option Int} (h24 : 0 ≤ m 101 24 ∧ m 101 24 ≤ 59) (h : ∀ m', m' 101 = noteA (m 101) l1 l2 → Fr [101] m m' → Q0 m') : M_passRow_68 X (d + 1) l1 l2 o m Q0 := by
  refine M_passRow_68w hB ⟨by omega, by omega, by omega, h _ ?_ ((((((Fr.rf _ _).up (by simp)).up (by simp)).up (by simp)).up (by simp)))⟩
  funext j
  unfold noteA
  rw [up_at]
  by_cases z : j = 24
  · rw [if_pos z, if_pos z, up_ne (Or.inr (by omega)), up_ne (Or.inr (by omega)), up_ne (Or.inr (by omega))]
  · rw [if_neg z, if_neg z, up_at, up_at, up_at]
theorem M_passRow_24_c (hB : Bsh X.2.2.1) {l1 l2 : Int} {p : Int → Int} : ∀ (f : Nat) (m : Mm) (l3 : Int), 3 ≤ l3 → 180 - l3 = f → (∀ j, m 101 j = if 25 ≤ j ∧ j < l3 + 22 then p (j + 3) else p j) → p 24 = 60 → (∀ m' o, m' 101 = shA p → Fr [101] m m' → M_passRow_68 X (d + 1) l1 l2 o m' Q0) → M_passRow_24 X (d + 1) l1 l2 l3 m Q0 := by
  intro f
  induction f with
  | zero =>
    intro m l3 hl hf h1 hp h
    have e : l3 = 180 := by omega
    rw [e] at h1
    refine M_passRow_24w hB ⟨by omega, fun _ => h _ _ ?_ ((Fr.rf _ _).up (by simp)), fun e => by omega⟩
    funext j
    unfold shA
    have e1 : m 101 24 = 60 := by rw [h1 24, if_neg (by omega), hp]
    rw [if_pos hp, up_at, e1, h1 j]
    by_cases z : j = 24
    · rw [if_pos z, if_neg (by omega), if_pos z]
      rfl
    · rw [if_neg z]
      by_cases z2 : 25 ≤ j ∧ j < 202
      · rw [if_pos (by omega), if_pos z2]
      · rw [if_neg (by omega), if_neg z2, if_neg z]
  | succ f ih =>
    intro m l3 hl hf h1 hp h
    refine M_passRow_24w hB ⟨by omega, fun e => by omega, fun _ => ⟨by omega, by omega, ih _ (l3 + 1) (by omega) (by omega) (fun j => ?_) hp (fun m' o g1 g2 => h m' o g1 (((Fr.rf _ _).up (by simp)).tr g2))⟩⟩
    have e1 : m 101 (l3 + 25) = p (l3 + 25) := by rw [h1 (l3 + 25), if_neg (by omega)]
    rw [up_at, e1]
    by_cases z : j = l3 + 22
    · rw [if_pos z, if_pos (by omega)]
      congr 1
      omega
    · rw [if_neg z, h1 j]
      by_cases z2 : 25 ≤ j ∧ j < l3 + 22
      · rw [if_pos z2, if_pos (by omega)]
      · rw [if_neg z2, if_neg (by omega)]
theorem M_passRow_c (hB : Bsh X.2.2.1) (hv : Mv X m K pf) (hW : Wok K (wtM m)) (hQ : Qok K (m 101)) (h24 : 0 ≤ m 101 24 ∧ m 101 24 ≤ 60) (h : ∀ m', m' 101 = passA K (wtM m) pf (m 101) → Fr [83, 92, 93, 101] m m' → (∀ k, k ≠ 34 → m' 83 k = m 83 k) → Q0 m') : M_passRow X (d + 8) m Q0 := by
  refine M_passRoww hB (M_sumNow_c hB hv hW hQ (fun m1 g1 => ?_))
  have hv1 : Mv X m1 K pf := hv.of (fun k _ => by rw [g1 83 (by decide)]) g1 (fun a ha => by simp at ha; omega)
  have ew : wtM m1 = wtM m := by unfold wtM; rw [g1 100 (by decide)]
  have e1 : m1 101 = m 101 := g1 101 (by decide)
  refine M_slide_c hB hv1 (by rw [ew]; exact hW) (by rw [e1]; exact hQ) (fun m2 c1 c2 c3 => ?_)
  rw [ew, e1] at c1 ⊢
  have e24 : m2 101 24 = m 101 24 := by rw [c1]; rfl
  have fin : ∀ m3, m3 101 = shA (m2 101) → Fr [101] m2 m3 → ∀ o, M_passRow_68 X (d + 8) (sumA K (wtM m) pf (m 101)) (fellA K (wtM m) pf (m 101)) o m3 Q0 := by
    intro m3 k1 k2 o
    have s24 := sh24 (q := m2 101) (by omega)
    refine M_passRow_68_c hB (by rw [k1]; omega) (fun m' k3 k4 => h m' ?_ ?_ (fun k hk => ?_))
    · rw [k3, k1, c1]
      rfl
    · exact (g1.wd (by decide)).tr (c2.tr ((k2.tr k4).wd (by decide)))
    · rw [k4 83 (by decide), k2 83 (by decide), c3 k hk, g1 83 (by decide)]
  refine ⟨by omega, fun z => fin m2 ?_ (Fr.rf _ _) _, fun z => M_passRow_24_c hB (p := m2 101) 177 m2 3 (by omega) (by omega) (fun j => by rw [if_neg (by omega)]) z (fun m' o k1 k2 => fin m' k1 k2 o)⟩
  funext j
  unfold shA
  rw [if_neg z]
theorem M_undo_21_c (hB : Bsh X.2.2.1) {A : Int} (hA : 0 ≤ A ∧ A < 40) : ∀ (f : Nat) (m : Mm) (l1 : Int), 0 ≤ l1 → 205 - l1 = f → m 83 36 = A → (∀ m', (∀ j, m' 101 j = if l1 ≤ j ∧ j < 205 then m 103 (205 * A + j) else m 101 j) → Fr [101] m m' → Q A m') → M_undo_21 X d l1 m Q := by
  intro f
  induction f with
  | zero =>
    intro m l1 hl hf e36 h
    refine M_undo_21w hB ⟨by omega, fun _ => ?_, fun e => by omega⟩
    rw [e36]
    exact h m (fun j => by rw [if_neg (by omega)]) (Fr.rf _ _)
  | succ f ih =>
    intro m l1 hl hf e36 h
    refine M_undo_21w hB ⟨by omega, fun e => by omega, fun _ => ⟨by omega, by omega, ?_⟩⟩
    rw [e36]
    refine ih _ (l1 + 1) (by omega) (by omega) (by rw [up_ne (Or.inl (by decide))]; exact e36) (fun m' g1 g2 => h m' (fun j => ?_) (((Fr.rf _ _).up (by simp)).tr g2))
    rw [g1 j, up_ne (Or.inl (by decide)), up_at]
    by_cases z : l1 + 1 ≤ j ∧ j < 205
    · rw [if_pos z, if_pos (by omega)]
    · rw [if_neg z]
      by_cases z2 : j = l1
      · rw [if_pos z2, if_pos (by omega), z2]
      · rw [if_neg z2, if_neg (by omega)]
end Crel2
