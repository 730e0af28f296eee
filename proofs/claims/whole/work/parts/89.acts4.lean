/-! ===== rows, undo, log, count, law, end ===== -/
section Acts4
variable {X : Cx} {d : Nat} {m m' : Mm} {A : Ab} {t : Int} {Q : Int → Mm → Prop} {Q0 : Mm → Prop} {K : Kn} {pf : Pf}
theorem rws_ok {wt : Int → Int} (hK : Kok K) : ∀ (f : Nat) (q : Int → Int) (AL : List (Int → Int)), Qok K q → (0 ≤ q 24 ∧ q 24 ≤ 60) → q 21 + f ≤ kR K 3 → Qok K (rwS K wt pf f (q, AL)).1 ∧ (rwS K wt pf f (q, AL)).1 23 = q 23 ∧ ∀ a ∈ (rwS K wt pf f (q, AL)).2, a = q ∨ a ∈ AL ∨ (Qok K a ∧ a 23 = q 23) := by
  intro f
  induction f with
  | zero => intro q AL hQ _ _; exact ⟨hQ, rfl, fun a ha => Or.inr (Or.inl ha)⟩
  | succ f ih =>
    intro q AL hQ h24 hrow
    have hp := pass_ok (wt := wt) (pf := pf) hK hQ (by omega) h24
    obtain ⟨c1, c2, c3⟩ := ih (passA K wt pf q) (kpL AL q) hp.1 hp.2.2.2 (by rw [hp.2.1]; omega)
    refine ⟨c1, c2.trans hp.2.2.1, fun a ha => ?_⟩
    rcases c3 a ha with e | e | ⟨e1, e2⟩
    · exact Or.inr (Or.inr ⟨by rw [e]; exact hp.1, by rw [e]; exact hp.2.2.1⟩)
    · rcases kp_mem e with e | e
      · exact Or.inl e
      · exact Or.inr (Or.inl e)
    · exact Or.inr (Or.inr ⟨e1, e2.trans hp.2.2.1⟩)
theorem op_rows (hH : HLaw) (hB : Bsh X.2.2.1) (hI : InvA X m A t) (ht : t + 1 ≤ 1000) {x : Int} (hx : R3 x) : ∃ A', AOk A' (t + 1) ∧ Bth X A' t (V_rows X (d + 20) x) (M_rows X (d + 20) x) m := by
  have hn := hI.n
  obtain ⟨c, c2, b1, b2, b3, b4, b5, b6, b7, b8⟩ := hI.1.2.1
  have h4 := b7.2.1
  have hS := hI.1.S
  have e7 : m 17 7 = abQ A 21 := hS.2.2.2.2.1
  have hrow : 0 < kNm (abK A) → (0 ≤ abQ A 21 ∧ abQ A 21 ≤ kR (abK A) 3) ∧ (1 ≤ kR (abK A) 3 ∧ kR (abK A) 3 ≤ 20) := fun hp => ⟨(hI.q hp).1.2.2.2.2.1, (hI.k hp).2.2.2.2.2.1⟩
  have h24 : 0 ≤ abQ A 24 ∧ abQ A 24 ≤ 60 := hI.1.2.2.2.1.2.1.1.1
  obtain ⟨q', hq'⟩ : ∃ q', q' = (rwS (abK A) (wtB (abB A)) (abP A) x.toNat (abQ A, abL A)).1 := ⟨_, rfl⟩
  obtain ⟨AL', hAL'⟩ : ∃ AL', AL' = (rwS (abK A) (wtB (abB A)) (abP A) x.toNat (abQ A, abL A)).2 := ⟨_, rfl⟩
  have clV : ∀ Q : Int → Mm → Prop, (kNm (abK A) = 0 → Q (-1) (up m 82 0 (m 82 0 + 1))) → (0 < kNm (abK A) → (x < 1 ∨ 20 < x) → Q (-1) (up m 82 1 (m 82 1 + 1))) → (0 < kNm (abK A) → 1 ≤ x → x ≤ 20 → kR (abK A) 3 < abQ A 21 + x → Q (-1) (up m 82 4 (m 82 4 + 1))) → (0 < kNm (abK A) → 1 ≤ x → x ≤ 20 → abQ A 21 + x ≤ kR (abK A) 3 → ∀ m' r, CR m' (abK A) (abB A) q' AL' r → 0 ≤ r → FcS m m' → m' 17 10 ≤ m 17 10 + 400 → Q (q' 22) m') → V_rows X (d + 20) x m Q := by
    intro Q r0 r1 r4 ac
    refine V_rowsw hB (V_hasCanton_c hB b1 b4 (by omega) (fun hp => q1n ⟨hx, fun z => V_refuse_c hB (by omega) (r1 (by omega) (Or.inl z)), fun z1 => ⟨fun z2 => ⟨c, b1, b4, K_lastRow_c hB b1 ?_⟩, fun z => V_refuse_c hB (by omega) (r1 (by omega) (Or.inr z))⟩⟩) (fun z => q0n (V_refuse_c hB (by omega) (r0 (by omega)))))
    have hr := hrow (by omega)
    have e3 : m (c + 1) 3 = kR (abK A) 3 := b7.2.2.2.1 3 (by omega) (by omega)
    rw [e3, e7]
    obtain ⟨c', hc'⟩ := hI.1.ci hH hB hI.2.2
    obtain ⟨v1, v2, v3, v4, v5⟩ := hc'.2.2.2.2.2 (by omega)
    refine ⟨by omega, by omega, fun z => V_rows_57_c hB v2 (by omega) x.toNat m 0 (abQ A) (abL A) 0 v1 v3 hI.1.2.2.2.1 (by decide) (by omega) (by omega) (by omega) (FcS.rf m) (by omega) (fun m' r g1 g2 g3 g4 => ?_), fun z => V_refuse_c hB (by omega) (r4 (by omega) z1 z2 z)⟩
    rw [← hq'] at g1 ⊢
    rw [← hAL'] at g1
    exact ac (by omega) z1 z2 z m' r g1 g2 g3 (by omega)
  have clM : ∀ (m1 : Mm) (Q : Int → Mm → Prop), MW m1 A → (kNm (abK A) = 0 → Q (-1) (up m1 102 0 (m1 102 0 + 1))) → (0 < kNm (abK A) → (x < 1 ∨ 20 < x) → Q (-1) (up m1 102 1 (m1 102 1 + 1))) → (0 < kNm (abK A) → 1 ≤ x → x ≤ 20 → kR (abK A) 3 < abQ A 21 + x → Q (-1) (up m1 102 4 (m1 102 4 + 1))) → (0 < kNm (abK A) → 1 ≤ x → x ≤ 20 → abQ A 21 + x ≤ kR (abK A) 3 → ∀ m', MR m' q' AL' → FmS m1 m' → Q (q' 22) m') → M_rows X (d + 20) x m1 Q := by
    intro m1 Q hM r0 r1 r4 ac
    have e28 := hM.n
    have e101 := hM.q
    have e98 : m1 98 3 = kR (abK A) 3 := by rw [← hM.2.1]; rfl
    refine M_rowsw hB ⟨by omega, fun hp => M_in_c hx (by decide) (by decide) (fun z1 z2 => q1n ?_) (fun z => q0n (M_isRefused_c hB (by decide) (fun e => absurd e (by decide)) (fun _ => q1e (r1 (by omega) z)))), fun z => M_isRefused_c hB (by decide) (fun e => absurd e (by decide)) (fun _ => q1e (r0 (by omega)))⟩
    have hr := hrow (by omega)
    have mi := hM.mi hH hB hI.2.2
    obtain ⟨v1, v2, v3⟩ := mi.2.2.2.2 (by omega)
    have ew := mi.w
    rw [e101, e98]
    refine ⟨by omega, by omega, fun z => M_isRefused_c hB (by decide) (fun _ => q0e (M_rows_56_c hB (m0 := m1) (by omega) (by rw [ew]; exact v2.w) x.toNat m1 0 (abQ A) (abL A) v1 v3 hM.2.2.2.2.1 h24 (by omega) (by omega) (by omega) (FmS.rf m1) (fun m' g1 g2 => ?_))) (fun e => absurd rfl e), fun z => M_isRefused_c hB (by decide) (fun e => absurd e (by decide)) (fun _ => q1e (r4 (by omega) z1 z2 z))⟩
    rw [ew, ← hq'] at g1 ⊢
    rw [← hAL'] at g1
    exact ac (by omega) z1 z2 z m' g1 g2
  by_cases c0 : kNm (abK A) = 0
  · exact bth_rf hI ht (i := 0) (by decide) (fun Q h => clV Q (fun _ => h) (fun _ _ => by omega) (fun _ _ _ _ => by omega) (fun _ _ _ _ => by omega)) (fun m1 Q h1 h => clM m1 Q h1 (fun _ => h) (fun _ _ => by omega) (fun _ _ _ _ => by omega) (fun _ _ _ _ => by omega))
  by_cases c1 : x < 1 ∨ 20 < x
  · exact bth_rf hI ht (i := 1) (by decide) (fun Q h => clV Q (fun _ => by omega) (fun _ _ => h) (fun _ _ _ _ => by omega) (fun _ _ _ _ => by omega)) (fun m1 Q h1 h => clM m1 Q h1 (fun _ => by omega) (fun _ _ => h) (fun _ _ _ _ => by omega) (fun _ _ _ _ => by omega))
  by_cases c4 : kR (abK A) 3 < abQ A 21 + x
  · exact bth_rf hI ht (i := 4) (by decide) (fun Q h => clV Q (fun _ => by omega) (fun _ _ => by omega) (fun _ _ _ _ => h) (fun _ _ _ _ => by omega)) (fun m1 Q h1 h => clM m1 Q h1 (fun _ => by omega) (fun _ _ => by omega) (fun _ _ _ _ => h) (fun _ _ _ _ => by omega))
  have hqo := hI.q (by omega)
  obtain ⟨w1, w2, w3⟩ := rws_ok (wt := wtB (abB A)) (pf := abP A) (hI.k (by omega)) x.toNat (abQ A) (abL A) hqo.1 h24 (by omega)
  rw [← hq'] at w1 w2
  rw [← hAL'] at w3
  refine bth_act hI ht (by omega) (q' := q') (AL' := AL') (F := q' 22) ⟨w1, by rw [w2]; exact hqo.2.1, by rw [w2]; have := hqo.2.2; omega⟩ (fun a ha => ?_) (fun Q h => clV Q (fun _ => by omega) (fun _ _ => by omega) (fun _ _ _ _ => by omega) (fun _ _ _ _ => h)) (fun m1 Q h1 h => clM m1 Q h1 (fun _ => by omega) (fun _ _ => by omega) (fun _ _ _ _ => by omega) (fun _ _ _ _ => h))
  rcases w3 a ha with e | e | ⟨e1, e2⟩
  · exact Or.inl e
  · exact Or.inr (Or.inl e)
  · exact Or.inr (Or.inr ⟨e1, by rw [e2]; exact hqo.2.1, by rw [e2]; have := hqo.2.2; omega⟩)
theorem al_mem {AL : List (Int → Int)} {i : Nat} (h : i < AL.length) : al AL i ∈ AL := by
  unfold al
  rw [List.getD_eq_getElem?_getD, List.getElem?_eq_getElem h]
  exact List.getElem_mem h
theorem op_undo (hB : Bsh X.2.2.1) (hI : InvA X m A t) (ht : t + 1 ≤ 1000) : ∃ A', AOk A' (t + 1) ∧ Bth X A' t (V_undo X (d + 20)) (M_undo X (d + 20)) m := by
  have hn := hI.n
  have hC := hI.1.2.2.2.1
  have hlen := hC.2.2.2.1
  by_cases c0 : (abL A).length = 0
  · refine ⟨A, hI.2.2.up ht, bth_of (F := -1) hI (fun Q h => ?_) (fun m1 Q h1 h => ?_)⟩
    · have e := hC.2.2.1
      exact V_undow hB ⟨by omega, fun z => by omega, fun _ => h m hI.1.up (fun _ _ => rfl)⟩
    · have e := h1.2.2.2.2.1.2.1
      exact M_undow hB ⟨by omega, fun z => by omega, fun _ => h m1 h1 (fun _ _ => rfl)⟩
  · have hp : 0 < kNm (abK A) := by
      rcases Int.lt_or_le 0 (kNm (abK A)) with z | z
      · exact z
      · have := (hI.2.2.2.2.2.1 (by omega)).1
        rw [this] at c0
        exact absurd rfl c0
    have hmem := al_mem (AL := abL A) (i := (abL A).length - 1) (by omega)
    have hqa := (hI.2.2.2.2.2.2.1 hp).2.2.2.1 _ hmem
    have hl : (abL A).dropLast.length = (abL A).length - 1 := by simp
    refine bth_act hI ht hp (q' := unQ (abQ A) (al (abL A) ((abL A).length - 1))) (AL' := (abL A).dropLast) (F := ((abL A).length : Int) - 1) ⟨hqa.1.cq hn.2 (fun j h1 h2 => by unfold unQ; rw [if_pos (by omega)]), ?_, ?_⟩ (fun a ha => Or.inr (Or.inl ((List.dropLast_sublist _).subset ha))) (fun Q h => ?_) (fun m1 Q h1 h => ?_)
    · unfold unQ
      rw [if_pos (by omega)]
      exact hqa.2.1
    · unfold unQ
      rw [if_pos (by omega)]
      have := hqa.2.2
      omega
    · have e := hC.2.2.1
      refine V_undow hB ⟨by omega, fun _ => H_takeActBack_c hB hC (by decide) (by omega) (fun m1 g1 g2 h10 => ?_), fun z => by omega⟩
      have e0 := g1.2.2.1
      have e0' : m1 21 0 = ((abL A).length : Int) - 1 := by rw [e0, hl]; omega
      rw [e0']
      obtain ⟨w1, w2, w3, w4, w5, w6, w7, w8⟩ := g1
      exact h m1 0 ⟨w1.cq hn.2 (fun j h1 h2 => by unfold unQ; rw [if_pos (by omega)]), w2.cg (fun _ _ _ => rfl) (fun j h1 h2 => by unfold unQ; rw [if_pos (by omega)]), w3, w4, w5, w6, w7, w8⟩ (by decide) g2 (by omega)
    · have e := h1.2.2.2.2.1.2.1
      have e101 := h1.q
      refine M_undow hB ⟨by omega, fun _ => ?_, fun z => by omega⟩
      rw [e]
      refine M_undo_21_c hB (A := ((abL A).length : Int) - 1) (by omega) 205 _ 0 (by omega) (by omega) (up_same _ _ _ _) (fun m2 g1 g2 => h m2 ⟨?_, ?_, by omega, fun i hi j h3 h4 => ?_⟩ ?_)
      · funext j
        rw [g1 j, up_ne (Or.inl (by decide)), up_ne (Or.inl (by decide)), e101]
        unfold unQ
        by_cases z : 0 ≤ j ∧ j < 205
        · rw [if_pos z, if_pos z, ← h1.2.2.2.2.1.2.2.2 ((abL A).length - 1) (by omega) j z.1 z.2]
          congr 1
          omega
        · rw [if_neg z, if_neg z]
      · rw [g2 83 (by decide), up_same, hl]
        omega
      · rw [g2 103 (by decide), up_ne (Or.inl (by decide)), h1.2.2.2.2.1.2.2.2 i (by omega) j h3 h4]
        unfold al
        rw [List.getD_eq_getElem?_getD, List.getD_eq_getElem?_getD, List.getElem?_dropLast, if_pos (by omega)]
      · exact ⟨fun k _ hk => by rw [g2 83 (by decide), up_ne (Or.inr hk)], ((Fr.rf _ _).up (by simp)).tr (g2.wd (by decide))⟩
end Acts4
