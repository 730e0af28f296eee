/-! ===== the two views: what each side holds; contracts of the slope over them ===== -/
abbrev wtB (B : Int → Int) : Int → Int := fun k => B (4 * k)
/-- members as they were told -/
def Bok (K : Kn) (B : Int → Int) : Prop := ∀ k, 0 ≤ k → k < kNm K → (1 ≤ B (4 * k) ∧ B (4 * k) ≤ 9) ∧ (0 ≤ B (4 * k + 1) ∧ B (4 * k + 1) ≤ 2) ∧ (0 ≤ B (4 * k + 2) ∧ B (4 * k + 2) ≤ 9) ∧ (0 ≤ B (4 * k + 3) ∧ B (4 * k + 3) ≤ 9)
theorem Bok.w {K : Kn} {B : Int → Int} (h : Bok K B) : Wok K (wtB B) := fun k h1 h2 => (h k h1 h2).1
/-- the class's slope: the canton, the law -/
def Cv (X : Cx) (m : Mm) (c : Nat) (K : Kn) (pf : Pf) : Prop := cO c ∧ m 18 0 = (c : Int) ∧ Ck m c K ∧ PC X.1 X.2.1 X.2.2.1 X.2.2.2 m pf ∧ Kok K ∧ Pok pf
/-- the reference's canton and law -/
def Mv (X : Cx) (m : Mm) (K : Kn) (pf : Pf) : Prop := kM m = K ∧ PM X.1 X.2.1 X.2.2.1 X.2.2.2 m pf ∧ Kok K ∧ Pok pf
/-- what a step of the class changes -/
def Sc (s : Nat) (m m' : Mm) : Prop := m' 18 0 = m 18 0 ∧ m' 18 1 = m 18 1 ∧ Fr [18, 19, 20, s] m m'
theorem Sc.rf (s : Nat) (m : Mm) : Sc s m m := ⟨rfl, rfl, Fr.rf _ _⟩
theorem Sc.tr {s : Nat} {m m1 m2 : Mm} (h : Sc s m m1) (h2 : Sc s m1 m2) : Sc s m m2 := ⟨h2.1.trans h.1, h2.2.1.trans h.2.1, h.2.2.tr h2.2.2⟩
theorem Cv.sc {X : Cx} {m m' : Mm} {c : Nat} {K : Kn} {pf : Pf} {S : List Nat} (h : Cv X m c K pf) (h0 : m' 18 0 = m 18 0) (h1 : m' 18 1 = m 18 1) (hf : Fr S m m') (hS : ∀ a ∈ S, a = 18 ∨ (19 ≤ a ∧ a < 114)  ∨ a = 17) : Cv X m' c K pf := by
  obtain ⟨a1, a2, a3, a4, a5, a6⟩ := h
  have ne : ∀ a, a < 17 → m' a = m a := fun a ha => hf a (fun q => by have := hS a q; omega)
  refine ⟨a1, h0.trans a2, a3.fr (ne _ (by omega)) (ne _ (by omega)) (ne _ (by omega)), a4.ls ⟨h1, fun a ha => hf a (fun q => by have := hS a q; omega)⟩, a5, a6⟩
theorem Cv.of {X : Cx} {m m' : Mm} {c s : Nat} {K : Kn} {pf : Pf} (h : Cv X m c K pf) (hs : stO s) (hc : Sc s m m') : Cv X m' c K pf := h.sc hc.1 hc.2.1 hc.2.2 (fun a ha => by simp at ha; omega)
section Slope
variable {X : Cx} {d : Nat} {m : Mm} {Q : Int → Mm → Prop} {Q0 : Mm → Prop} {c s : Nat} {K : Kn} {wt q : Int → Int} {pf : Pf}
theorem stO_s (h : stO s) : sO s := by rcases h with rfl | rfl | rfl <;> decide
theorem S_sideAtEnd_c (hB : Bsh X.2.2.1) (hv : Cv X m c K pf) (hs : stO s) (hW : Wok K wt) (hS : Sr K wt (m s) q) (hQ : Qok K q) (h : ∀ m', Sr K wt (m' s) (endA K wt pf q) → m' s 10 = m s 10 → Sc s m m' → Q (sideA K (endA K wt pf q 22)) m') : S_sideAtEnd X (d + 8) s m Q := by
  obtain ⟨a1, a2, a3, a4, a5, a6⟩ := hv
  obtain ⟨v, m', ⟨h1, h2, h3, h4, h5, h6⟩, hr⟩ := c_sideAtEnd X.1 X.2.1 d X.2.2.2 hB a1 hs (sSh hB (stO_s hs)) a2 a3 a5 a4 a6 hS hQ hW
  exact ⟨v, m', by rw [h1]; exact h m' h2 h3 ⟨h4, h5, h6⟩, hr⟩
theorem S_step_c (hB : Bsh X.2.2.1) (hv : Cv X m c K pf) (hs : stO s) (hW : Wok K wt) (hS : Sr K wt (m s) q) (hQ : Qok K q) (h : ∀ m', Sr K wt (m' s) (slideA K wt pf q) → m' s 10 = m s 10 → m' 18 2 = sumA K wt pf q → m' 18 3 = fellA K wt pf q → m' 18 4 = bumpQ K wt pf q → Sc s m m' → Q0 m') : S_step X (d + 7) s m Q0 := by
  obtain ⟨a1, a2, a3, a4, a5, a6⟩ := hv
  obtain ⟨m', ⟨h1, h2, h3, h4, h5, h6, h7, h8⟩, hr⟩ := c_step X.1 X.2.1 d X.2.2.2 hB a1 hs (sSh hB (stO_s hs)) a2 a3 a5 a4 a6 hS hQ hW
  exact ⟨m', h m' h1 h2 h3 h4 h5 ⟨h6, h7, h8⟩, hr⟩
theorem S_sumOf_c (hB : Bsh X.2.2.1) (hv : Cv X m c K pf) (hs : stO s) (hW : Wok K wt) (hS : Sr K wt (m s) q) (hQ : Qok K q) (h : ∀ m', Fr [19, 20] m m' → Q (sumA K wt pf q) m') : S_sumOf X (d + 6) s m Q := by
  obtain ⟨a1, a2, a3, a4, a5, a6⟩ := hv
  obtain ⟨v, m', ⟨h1, h2⟩, hr⟩ := c_sumOf X.1 X.2.1 d X.2.2.2 hB a1 hs (sSh hB (stO_s hs)) a2 a3 a5 a4 a6 hS hQ hW
  exact ⟨v, m', by rw [h1]; exact h m' h2, hr⟩
theorem S_pushOf_c (hv : Cv X m c K pf) (hs : stO s) (hW : Wok K wt) (hS : Sr K wt (m s) q) (hQ : Qok K q) {k : Int} (h0 : 0 ≤ k) (h1 : k < kNm K) (h : ∀ m', Fr [19, 20] m m' → Q (pushA (kNm K) wt pf q k) m') : S_pushOf X (d + 5) s k m Q := by
  obtain ⟨a1, a2, a3, a4, a5, a6⟩ := hv
  obtain ⟨v, m', ⟨h1, h2⟩, hr⟩ := a4 d m s K wt q k (Lsc.rf m) hs hS a5 hQ hW h0 h1
  exact ⟨v, m', by rw [h1]; exact h m' h2, hr⟩
theorem S_everyone_c (hB : Bsh X.2.2.1) (hv : Cv X m c K pf) (h : Q (pw (kNm K) - 1) m) : S_everyone X d m Q := by
  obtain ⟨a1, a2, a3, a4, a5, a6⟩ := hv
  exact rqP (c_everyone X.1 X.2.1 d X.2.2.2 hB a1 a2 a3 a5) h
/-- a state as it was copied -/
theorem Sr.cp {f : Int → Int} (h : Sr K wt (m 17) q) : Sr K wt (cpS m s 17 s) q := h.cong (fun j h1 h2 => by unfold cpS; rw [if_pos ⟨rfl, h1, by omega⟩])
theorem cp_fr (m : Mm) (s o : Nat) : Fr [s] m (cpS m s o) := fun a ha => by
  funext j
  unfold cpS
  rw [if_neg (fun e => ha (by simp [e.1]))]
theorem cp_sc {o : Nat} (hs : s = 69 ∨ s = 76) : Sc s m (cpS m s o) := ⟨by rw [cp_fr m s o 18 (by simp; omega)], by rw [cp_fr m s o 18 (by simp; omega)], (cp_fr m s o).wd (by simp)⟩
/-! the reference -/
theorem M_sumNow_c (hB : Bsh X.2.2.1) (hv : Mv X m K pf) (hW : Wok K (wtM m)) (hQ : Qok K (m 101)) (h : ∀ m', Fr [92, 93] m m' → Q (sumA K (wtM m) pf (m 101)) m') : M_sumNow X (d + 6) m Q := by
  obtain ⟨rfl, a2, a3, a4⟩ := hv
  obtain ⟨v, m', ⟨h1, h2⟩, hr⟩ := m_sumNow X.1 X.2.1 d X.2.2.2 hB a2 a3 hQ hW
  exact ⟨v, m', by rw [h1]; exact h m' h2, hr⟩
theorem M_pushOf_c (hv : Mv X m K pf) (hW : Wok K (wtM m)) (hQ : Qok K (m 101)) {k : Int} (h0 : 0 ≤ k) (h1 : k < kNm K) (h : ∀ m', Fr [92, 93] m m' → Q (pushA (kNm K) (wtM m) pf (m 101) k) m') : M_pushOf X (d + 5) k m Q := by
  obtain ⟨rfl, a2, a3, a4⟩ := hv
  obtain ⟨v, m', ⟨h1, h2⟩, hr⟩ := a2 d m k (Lsm.rf m) a3 hQ hW h0 h1
  exact ⟨v, m', by rw [h1]; exact h m' h2, hr⟩
theorem M_slide_c (hB : Bsh X.2.2.1) (hv : Mv X m K pf) (hW : Wok K (wtM m)) (hQ : Qok K (m 101)) (h : ∀ m', m' 101 = slideA K (wtM m) pf (m 101) → Fr [83, 92, 93, 101] m m' → (∀ k, k ≠ 34 → m' 83 k = m 83 k) → Q (fellA K (wtM m) pf (m 101)) m') : M_slide X (d + 7) m Q := by
  obtain ⟨rfl, a2, a3, a4⟩ := hv
  obtain ⟨v, m', ⟨h1, h2, h3, h4, h5⟩, hr⟩ := m_slide X.1 X.2.1 d X.2.2.2 hB a2 a4 a3 hQ hW
  exact ⟨v, m', by rw [h1]; exact h m' h2 h3 h4, hr⟩
/-- scratch of the reference -/
def scF (k : Int) : Prop := k = 34 ∨ k = 39 ∨ k = 40 ∨ k = 41 ∨ k = 42
def SmM (m m' : Mm) : Prop := (∀ k, ¬ scF k → m' 83 k = m 83 k) ∧ Fr [83, 92, 93, 104, 105, 106, 110, 111] m m'
theorem SmM.rf (m : Mm) : SmM m m := ⟨fun _ _ => rfl, Fr.rf _ _⟩
theorem SmM.tr {m m1 m2 : Mm} (h : SmM m m1) (h2 : SmM m1 m2) : SmM m m2 := ⟨fun k hk => (h2.1 k hk).trans (h.1 k hk), h.2.tr h2.2⟩
/-- while a run is tried -/
def TrM (m m2 : Mm) : Prop := (∀ k, ¬ scF k → m2 83 k = m 83 k) ∧ Fr [83, 92, 93, 101, 104, 105, 106, 110, 111] m m2 ∧ (∀ j, 0 ≤ j → j < 24 → m2 104 j = m 101 j) ∧ (∀ j, (j < 0 ∨ 24 ≤ j) → m2 101 j = m 101 j)
theorem kM_of {m m' : Mm} (h : ∀ k, ¬ scF k → m' 83 k = m 83 k) (h98 : m' 98 = m 98) (h99 : m' 99 = m 99) : kM m' = kM m := by
  unfold kM
  rw [h98, h99, h 27 (by unfold scF; omega), h 28 (by unfold scF; omega), h 29 (by unfold scF; omega)]
theorem Mv.of {m m' : Mm} {S : List Nat} (h : Mv X m K pf) (h0 : ∀ k, ¬ scF k → m' 83 k = m 83 k) (hf : Fr S m m') (hS : ∀ a ∈ S, ¬ (85 ≤ a ∧ a ≤ 91) ∧ a ≠ 98 ∧ a ≠ 99) : Mv X m' K pf := by
  obtain ⟨a1, a2, a3, a4⟩ := h
  refine ⟨(kM_of h0 (hf _ (fun q => (hS _ q).2.1 rfl)) (hf _ (fun q => (hS _ q).2.2 rfl))).trans a1, a2.ls ⟨h0 32 (by unfold scF; omega), fun a x y => hf a (fun q => (hS a q).1 ⟨x, y⟩)⟩, a3, a4⟩
theorem Mv.sm {m m' : Mm} (h : Mv X m K pf) (h2 : SmM m m') : Mv X m' K pf := h.of h2.1 h2.2 (fun a ha => by simp at ha; omega)
theorem Mv.trm {m m' : Mm} (h : Mv X m K pf) (h2 : TrM m m') : Mv X m' K pf := h.of h2.1 h2.2.1 (fun a ha => by simp at ha; omega)
theorem TrM.set {m m2 : Mm} (h : TrM m m2) {j v : Int} (hj : 0 ≤ j ∧ j < 24) : TrM m (up m2 101 j v) := by
  obtain ⟨a1, a2, a3, a4⟩ := h
  refine ⟨fun k hk => by rw [up_ne (Or.inl (by decide))]; exact a1 k hk, a2.up (by simp), fun i h1 h2 => by rw [up_ne (Or.inl (by decide))]; exact a3 i h1 h2, fun i hi => by rw [up_ne (Or.inr (by omega))]; exact a4 i hi⟩
/-- a run is begun on the side -/
theorem M_putAside_t (hB : Bsh X.2.2.1) (h : ∀ m1, TrM m m1 → m1 101 = m 101 → m1 83 34 = 0 → (∀ k, k ≠ 34 → m1 83 k = m 83 k) → Fr [83, 104] m m1 → Q0 m1) : M_putAside X d m Q0 := by
  refine M_putAside_c hB ?_
  obtain ⟨m1, hm1⟩ : ∃ m1, m1 = up (upR m 104 0 24 (m 101)) 83 34 0 := ⟨_, rfl⟩
  rw [← hm1]
  have e : ∀ k, k ≠ 34 → m1 83 k = m 83 k := fun k hk => by rw [hm1, up_ne (Or.inr hk), upR_off (by decide)]
  have hf : Fr [83, 104] m m1 := by rw [hm1]; exact ((Fr.rf _ m).upR (by simp)).up (by simp)
  refine h m1 ⟨fun k hk => e k (fun z => hk (Or.inl z)), hf.wd (by decide), fun j h1 h2 => ?_, fun j _ => by rw [hf 101 (by decide)]⟩ (hf 101 (by decide)) (by rw [hm1]; exact up_same _ _ _ _) e hf
  rw [hm1, up_ne (Or.inl (by decide)), upR_in ⟨h1, h2⟩]
/-- a run on the side goes down, and all is as it was -/
theorem M_layEnd_c {m2 : Mm} (hB : Bsh X.2.2.1) (hv : Mv X m K pf) (hT : TrM m m2) (hW : Wok K (wtM m)) (hQ : Qok K (m2 101)) (h : ∀ m3, SmM m m3 → m3 83 39 = endA K (wtM m) pf (m2 101) 22 → m3 83 40 = endA K (wtM m) pf (m2 101) 18 → m3 83 34 = metA K (wtM m) pf (kR K 3 - m2 101 21).toNat (m2 101) (m2 83 34) → (∀ k, k ≠ 34 → k ≠ 39 → k ≠ 40 → m3 83 k = m2 83 k) → Fr [83, 92, 93, 101] m2 m3 → Q0 m3) : M_layEnd X (d + 9) m2 Q0 := by
  have hv2 := hv.trm hT
  have ew : wtM m2 = wtM m := by unfold wtM; rw [hT.2.1 100 (by decide)]
  obtain ⟨e1, a2, a3, a4⟩ := hv2
  have hQ' : Qok (kM m2) (m2 101) := by rw [e1]; exact hQ
  have hK' : Kok (kM m2) := by rw [e1]; exact a3
  have hW' : Wok (kM m2) (wtM m2) := by rw [e1, ew]; exact hW
  obtain ⟨m3, ⟨h1, h2, h3, h4, h5, h6, h7⟩, hr⟩ := m_layEnd X.1 X.2.1 d X.2.2.2 hB a2 a4 hK' hQ' hW'
  have e98 : m2 98 3 = kR K 3 := by rw [← e1]; rfl
  rw [e1, ew] at h1 h2 h3
  rw [e98] at h3
  refine ⟨m3, h m3 ⟨fun k hk => ?_, fun a ha => ?_⟩ h1 h2 h3 h7 h6, hr⟩
  · rw [h7 k (fun z => hk (by unfold scF; omega)) (fun z => hk (by unfold scF; omega)) (fun z => hk (by unfold scF; omega))]
    exact hT.1 k hk
  · by_cases c : a = 101
    · subst c
      funext j
      by_cases c2 : 0 ≤ j ∧ j < 24
      · rw [h4 j c2.1 c2.2, hT.2.2.1 j c2.1 c2.2]
      · rw [h5 j (by omega), hT.2.2.2 j (by omega)]
    · have h83 : a ∉ [83, 92, 93, 101] := by simp at ha ⊢; omega
      rw [h6 a h83]
      exact hT.2.1 a (by simp at ha ⊢; omega)
end Slope
