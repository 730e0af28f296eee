/-! ===== ahead, met, stays ===== -/
theorem bumpQ_r {K : Kn} {wt q : Int → Int} {pf : Pf} (hK : Kok K) : -1 ≤ bumpQ K wt pf q ∧ bumpQ K wt pf q < 6 := by
  have hn := hK.2.1
  rcases bumpFrom_r (kB K) (q 21 + 1) (colA1 K wt pf q) (kNb K).toNat 0 (by omega) with h | h
  · have e : bumpQ K wt pf q = -1 := h
    omega
  · have e : bumpFrom (kB K) (q 21 + 1) (colA1 K wt pf q) (kNb K).toNat 0 = bumpQ K wt pf q := rfl
    rw [e] at h
    omega
theorem TrM.slide {X : Cx} {K : Kn} {wt : Int → Int} {pf : Pf} {m0 m m' : Mm} (h : TrM m0 m) (e : m' 101 = slideA K wt pf (m 101)) (hf : Fr [83, 92, 93, 101] m m') (hk : ∀ k, k ≠ 34 → m' 83 k = m 83 k) : TrM m0 m' := by
  obtain ⟨a1, a2, a3, a4⟩ := h
  refine ⟨fun k q => (hk k (fun z => q (Or.inl z))).trans (a1 k q), a2.tr (hf.wd (by decide)), fun j h1 h2 => by rw [hf 104 (by decide)]; exact a3 j h1 h2, fun j hj => ?_⟩
  rw [e]
  unfold slideA
  rw [if_neg (by omega), if_neg (by omega), if_neg (by omega)]
  exact a4 j hj
theorem TrM.back {m0 m : Mm} (h : TrM m0 m) : SmM m0 (upR m 101 0 24 (m 104)) := by
  obtain ⟨a1, a2, a3, a4⟩ := h
  refine ⟨fun k hk => by rw [upR_off (by decide)]; exact a1 k hk, fun a ha => ?_⟩
  by_cases c : a = 101
  · subst c
    funext j
    unfold upR
    by_cases c2 : 0 ≤ j ∧ j < 24
    · rw [if_pos ⟨rfl, c2⟩]
      exact a3 j c2.1 c2.2
    · rw [if_neg (fun z => c2 z.2)]
      exact a4 j (by omega)
  · rw [upR_off c]
    exact a2 a (by simp at ha ⊢; omega)
theorem MI.w {X : Cx} {m : Mm} {K : Kn} {B q : Int → Int} {pf : Pf} (h : MI X m K B pf q) : wtM m = wtB B := by rw [← h.2.1]; rfl
section Look2
variable {X : Cx} {d : Nat} {m : Mm} {Q : Int → Mm → Prop} {c : Nat} {K : Kn} {B q : Int → Int} {pf : Pf}
theorem O_columnAfter_10_c (hB : Bsh X.2.2.1) (hW : Wok K (wtB B)) {x : Int} (hx : 0 ≤ x ∧ x ≤ 20) : ∀ (f : Nat) (m : Mm) (l3 : Int) (q1 : Int → Int), Cv X m c K pf → Sr K (wtB B) (m 69) q1 → Qok K q1 → (0 ≤ l3 ∧ l3 ≤ 1000) → (min (x - l3) (kR K 3 - q1 21)).toNat = f → (∀ m', SmC m m' → Q (slidesA K (wtB B) pf f q1 22) m') → O_columnAfter_10 X (d + 8) x l3 m Q := by
  intro f
  induction f with
  | zero =>
    intro m l3 q1 hv hS hQ hl hf h
    have hr := hQ.2.2.2.2.1
    have h8 : m 69 8 = q1 22 := hS.2.2.2.2.2.1
    have h7 : m 69 7 = q1 21 := hS.2.2.2.2.1
    have e3 : m (c + 1) 3 = kR K 3 := hv.2.2.1.2.2.2.1 3 (by omega) (by omega)
    have hq := h m (SmC.rf m)
    have hrw := hv.2.2.2.2.1.2.2.2.2.2.1
    refine O_columnAfter_10w hB ⟨by omega, by omega, fun _ => by rw [h8]; exact hq, fun z => ⟨c, hv.1, hv.2.1, K_lastRow_c hB hv.1 ⟨by omega, by omega, fun _ => by rw [h8]; exact hq, fun z2 => ?_⟩⟩⟩
    rw [e3, h7] at z2
    omega
  | succ f ih =>
    intro m l3 q1 hv hS hQ hl hf h
    have hr := hQ.2.2.2.2.1
    have h7 : m 69 7 = q1 21 := hS.2.2.2.2.1
    have e3 : m (c + 1) 3 = kR K 3 := hv.2.2.1.2.2.2.1 3 (by omega) (by omega)
    have hrw := hv.2.2.2.2.1.2.2.2.2.2.1
    refine O_columnAfter_10w hB ⟨by omega, by omega, fun z => by omega, fun z => ⟨c, hv.1, hv.2.1, K_lastRow_c hB hv.1 ⟨by omega, by omega, fun z2 => by omega, fun z2 => ?_⟩⟩⟩
    refine S_step_c hB hv (Or.inr (Or.inl rfl)) hW hS hQ (fun m1 g1 _ _ _ _ g6 => ?_)
    have e21 : slideA K (wtB B) pf q1 21 = q1 21 + 1 := rfl
    exact ih m1 (l3 + 1) _ (hv.of (Or.inr (Or.inl rfl)) g6) g1 (slideA_ok hv.2.2.2.2.1 hQ (by omega)) (by omega) (by rw [e21]; omega) (fun m' hs => h m' ((g6.sm (Or.inl rfl)).tr hs))
theorem V_ahead_c (hB : Bsh X.2.2.1) (hI : CI X m c K B pf q) {x : Int} (hx : R3 x) (h : ∀ m', SmC m m' → Q (FAhead K B pf q x) m') : V_ahead X (d + 12) x m Q := by
  have hn := hI.mem
  have h4 := hI.2.2.2.1
  have no : (kNm K = 0 ∨ x < 0 ∨ 20 < x) → Q (-1) m := fun z => by
    have := h m (SmC.rf m)
    unfold FAhead at this
    rw [if_pos z] at this
    exact this
  refine V_aheadw hB (V_hasCanton_c hB hI.1 hI.2.1 hn (fun hp => q1e ⟨hx, fun z => no (by omega), fun z1 => ⟨fun z => no (by omega), fun z2 => ?_⟩⟩) (fun h0 => q0e (no (by omega))))
  obtain ⟨b1, b2, b3, b4, -⟩ := hI.2.2.2.2.2 (by omega)
  refine O_columnAfterw hB (T_copy_c hB (by decide) (by decide) (by decide) ?_)
  have hc : Sc 69 m (cpS m 69 17) := cp_sc (Or.inl rfl)
  refine O_columnAfter_10_c hB b2.w ⟨z1, z2⟩ _ _ 0 q (b1.of (Or.inr (Or.inl rfl)) hc) (Sr.cp b4 (f := q)) b3 (by omega) rfl (fun m' hs => ?_)
  have := h m' ((hc.sm (Or.inl rfl)).tr hs)
  unfold FAhead at this
  rw [if_neg (by omega)] at this
  rw [Int.sub_zero]
  exact this
theorem M_ahead_25_c (hB : Bsh X.2.2.1) {m0 : Mm} (hv : Mv X m0 K pf) (hW : Wok K (wtM m0)) {x : Int} (hx : 0 ≤ x ∧ x ≤ 20) : ∀ (f : Nat) (m : Mm) (l2 : Int), TrM m0 m → Qok K (m 101) → (0 ≤ l2 ∧ l2 ≤ 1000) → (min (x - l2) (kR K 3 - m 101 21)).toNat = f → (∀ m', SmM m0 m' → Q (slidesA K (wtM m0) pf f (m 101) 22) m') → M_ahead_25 X (d + 8) x l2 m Q := by
  intro f
  induction f with
  | zero =>
    intro m l2 hT hQ hl hf h
    have hv2 := hv.trm hT
    have hr := hQ.2.2.2.2.1
    have hrw := hv.2.2.1.2.2.2.2.2.1
    have e98 : m 98 3 = kR K 3 := by rw [← hv2.1]; rfl
    have fin : M_ahead_48 X (d + 8) x l2 m Q := M_ahead_48w hB (M_takeBack_c hB (h _ hT.back))
    refine M_ahead_25w hB ⟨by omega, by omega, fun _ => fin, fun z => M_isLast_c hB (by omega) (by omega) (fun _ => q1n fin) (fun z2 => ?_)⟩
    rw [e98] at z2
    omega
  | succ f ih =>
    intro m l2 hT hQ hl hf h
    have hv2 := hv.trm hT
    have hr := hQ.2.2.2.2.1
    have hrw := hv.2.2.1.2.2.2.2.2.1
    have e98 : m 98 3 = kR K 3 := by rw [← hv2.1]; rfl
    have ew : wtM m = wtM m0 := by unfold wtM; rw [hT.2.1 100 (by decide)]
    refine M_ahead_25w hB ⟨by omega, by omega, fun _ => by omega, fun z => M_isLast_c hB (by omega) (by omega) (fun z2 => by rw [e98] at z2; omega) (fun z2 => q0n ?_)⟩
    refine M_slide_c hB hv2 (by rw [ew]; exact hW) hQ (fun m1 g1 g2 g3 => ?_)
    have e21 : m1 101 21 = m 101 21 + 1 := by rw [g1]; rfl
    have hq1 : Qok K (m1 101) := by rw [g1]; exact slideA_ok hv.2.2.1 hQ (by omega)
    refine ih m1 (l2 + 1) (TrM.slide (X := X) hT g1 g2 g3) hq1 (by omega) (by rw [e21]; omega) (fun m' hs => ?_)
    rw [g1, ew]
    exact h m' hs
theorem M_ahead_c (hB : Bsh X.2.2.1) (hI : MI X m K B pf q) {x : Int} (hx : R3 x) (h : ∀ m', SmM m m' → Q (FAhead K B pf q x) m') : M_ahead X (d + 12) x m Q := by
  have hn := hI.n
  have hr := hI.2.2.2.1
  have ew := hI.w
  have no : (kNm K = 0 ∨ x < 0 ∨ 20 < x) → Q (-1) m := fun z => by
    have := h m (SmM.rf m)
    unfold FAhead at this
    rw [if_pos z] at this
    exact this
  refine M_aheadw hB ⟨by omega, fun h0 => no (by omega), fun hp => M_in_c hx (by decide) (by decide) (fun z1 z2 => q1n ?_) (fun z => q0n (no (by omega)))⟩
  obtain ⟨b1, b2, b3⟩ := hI.2.2.2.2 (by omega)
  obtain ⟨e1, e2, e3, -, -⟩ := hI
  refine M_putAside_t hB (fun m1 t1 t2 t3 _ _ => ?_)
  have q1 : m1 101 = q := t2.trans e3
  refine M_ahead_25_c hB b1 (by rw [ew]; exact b2.w) ⟨z1, z2⟩ _ m1 0 t1 (by rw [q1]; exact b3) (by omega) rfl (fun m' hs => ?_)
  have := h m' hs
  unfold FAhead at this
  rw [if_neg (by omega)] at this
  rw [q1, ew, Int.sub_zero]
  exact this
theorem O_bumpsAhead_15_c (hB : Bsh X.2.2.1) (hW : Wok K (wtB B)) : ∀ (f : Nat) (m : Mm) (l2 l3 : Int) (q1 : Int → Int), Cv X m c K pf → Sr K (wtB B) (m 69) q1 → Qok K q1 → l3 = q1 21 → (kR K 3 - q1 21).toNat = f → (∀ m', SmC m m' → Q (metA K (wtB B) pf f q1 l2) m') → O_bumpsAhead_15 X (d + 8) l2 l3 m Q := by
  intro f
  induction f with
  | zero =>
    intro m l2 l3 q1 hv hS hQ hl hf h
    have hr := hQ.2.2.2.2.1
    have e3 : m (c + 1) 3 = kR K 3 := hv.2.2.1.2.2.2.1 3 (by omega) (by omega)
    have hrw := hv.2.2.2.2.1.2.2.2.2.2.1
    exact O_bumpsAhead_15w hB ⟨c, hv.1, hv.2.1, K_lastRow_c hB hv.1 ⟨by omega, by omega, fun _ => h m (SmC.rf m), fun z2 => by omega⟩⟩
  | succ f ih =>
    intro m l2 l3 q1 hv hS hQ hl hf h
    have hr := hQ.2.2.2.2.1
    have e3 : m (c + 1) 3 = kR K 3 := hv.2.2.1.2.2.2.1 3 (by omega) (by omega)
    have hrw := hv.2.2.2.2.1.2.2.2.2.2.1
    refine O_bumpsAhead_15w hB ⟨c, hv.1, hv.2.1, K_lastRow_c hB hv.1 ⟨by omega, by omega, fun z2 => by omega, fun z2 => ?_⟩⟩
    refine S_step_c hB hv (Or.inr (Or.inl rfl)) hW hS hQ (fun m1 g1 _ _ _ g5 g6 => ?_)
    have hb := bumpQ_r (wt := wtB B) (q := q1) (pf := pf) hv.2.2.2.2.1
    have e21 : slideA K (wtB B) pf q1 21 = q1 21 + 1 := rfl
    have nx : ∀ y, (if bumpQ K (wtB B) pf q1 = -1 then l2 else iO l2 (iSl 1 (bumpQ K (wtB B) pf q1))) = y → O_bumpsAhead_15 X (d + 8) y (l3 + 1) m1 Q := fun y hy => ih m1 y (l3 + 1) _ (hv.of (Or.inr (Or.inl rfl)) g6) g1 (slideA_ok hv.2.2.2.2.1 hQ (by omega)) (by rw [e21]; omega) (by rw [e21]; omega) (fun m' hs => by rw [← hy]; exact h m' ((g6.sm (Or.inl rfl)).tr hs))
    rw [g5]
    exact ⟨by omega, fun z => nx _ (if_pos z), fun z => nx _ (if_neg z)⟩
theorem V_met_c (hB : Bsh X.2.2.1) (hI : CI X m c K B pf q) (h : ∀ m', SmC m m' → Q (FMet K B pf q) m') : V_met X (d + 12) m Q := by
  have hn := hI.mem
  have h4 := hI.2.2.2.1
  refine V_metw hB (V_hasCanton_c hB hI.1 hI.2.1 hn (fun hp => q1e ?_) (fun h0 => q0e ?_))
  · obtain ⟨b1, b2, b3, b4, -⟩ := hI.2.2.2.2.2 (by omega)
    refine O_bumpsAheadw hB (T_copy_c hB (by decide) (by decide) (by decide) ?_)
    have hc : Sc 69 m (cpS m 69 17) := cp_sc (Or.inl rfl)
    have e17 : cpS m 69 17 17 = m 17 := cp_fr m 69 17 17 (by decide)
    refine O_bumpsAhead_15_c hB b2.w _ _ 0 _ q (b1.of (Or.inr (Or.inl rfl)) hc) (Sr.cp b4 (f := q)) b3 (by rw [e17]; exact b4.2.2.2.2.1) rfl (fun m' hs => ?_)
    have := h m' ((hc.sm (Or.inl rfl)).tr hs)
    unfold FMet at this
    rw [if_neg (by omega)] at this
    exact this
  · have := h m (SmC.rf m)
    unfold FMet at this
    rw [if_pos (by omega)] at this
    exact this
theorem M_met_c (hB : Bsh X.2.2.1) (hI : MI X m K B pf q) (h : ∀ m', SmM m m' → Q (FMet K B pf q) m') : M_met X (d + 12) m Q := by
  have hn := hI.n
  have hr := hI.2.2.2.1
  have ew := hI.w
  refine M_metw hB ⟨by omega, fun hp => ?_, fun h0 => ?_⟩
  · obtain ⟨b1, b2, b3⟩ := hI.2.2.2.2 (by omega)
    obtain ⟨e1, e2, e3, -, -⟩ := hI
    refine M_putAside_t hB (fun m1 t1 t2 t3 _ _ => ?_)
    have q1 : m1 101 = q := t2.trans e3
    refine M_layEnd_c hB b1 t1 (by rw [ew]; exact b2.w) (by rw [q1]; exact b3) (fun m3 s1 s2 s3 s4 _ _ => ?_)
    rw [q1, ew, t3] at s4
    have := h m3 s1
    unfold FMet at this
    rw [if_neg (by omega)] at this
    rw [s4]
    exact this
  · have := h m (SmM.rf m)
    unfold FMet at this
    rw [if_pos (by omega)] at this
    exact this
/-! heels -/
theorem Sr.heel {wt f f' : Int → Int} (h : Sr K wt f q) {k v : Int} (hn : kNm K ≤ 6) (hk : 0 ≤ k ∧ k < kNm K) (hv : 0 ≤ v ∧ v ≤ 9) (e2 : f' 2 = wth (f 2) k v) (e : ∀ j, j ≠ 2 → f' j = f j) : Sr K wt f' (hlBy q k v) := by
  unfold Sr hlBy at *
  obtain ⟨a1, a2, a3, a4, a5, a6, a7⟩ := h
  refine ⟨fun i h1 h2 => ?_, ?_, ?_, ?_, ?_, ?_, ?_⟩
  · obtain ⟨b1, b2, b3, b4⟩ := a1 i h1 h2
    refine ⟨?_, ?_, ?_, ?_⟩
    · rw [e 0 (by decide)]; exact b1
    · rw [e 1 (by decide), if_neg (by omega)]; exact b2
    · rw [e2, nibI (by omega) (by omega) (by omega)]
      by_cases z : i = k
      · rw [if_pos z, if_pos (by omega)]
      · rw [if_neg z, if_neg (by omega)]; exact b3
    · rw [e 3 (by decide), if_neg (by omega)]; exact b4
  · rw [e 4 (by decide), if_neg (by omega)]; exact a2
  · rw [e 5 (by decide), if_neg (by omega)]; exact a3
  · rw [e 6 (by decide), if_neg (by omega)]; exact a4
  · rw [e 7 (by decide), if_neg (by omega)]; exact a5
  · rw [e 8 (by decide), if_neg (by omega)]; exact a6
  · rw [e 9 (by decide), if_neg (by omega)]; exact a7
theorem Qok.heel (h : Qok K q) {k v : Int} (hn : kNm K ≤ 6) (hk : 0 ≤ k ∧ k < kNm K) (hv : 0 ≤ v ∧ v ≤ 9) : Qok K (hlBy q k v) := by
  unfold Qok hlBy at *
  obtain ⟨a1, a2, a3, a4, a5, a6⟩ := h
  refine ⟨fun i h1 h2 => ?_, ?_, ?_, ?_, ?_, ?_⟩
  · obtain ⟨b1, b2, b3⟩ := a1 i h1 h2
    rw [if_neg (by omega), if_neg (c := 12 + i = 6 + k) (by omega)]
    refine ⟨b1, ?_, b3⟩
    split <;> omega
  · rw [if_neg (by omega)]; exact a2
  · rw [if_neg (by omega)]; exact a3
  · rw [if_neg (by omega)]; exact a4
  · rw [if_neg (by omega)]; exact a5
  · rw [if_neg (by omega)]; exact a6
theorem O_heelsToStay_2_c (hB : Bsh X.2.2.1) {x : Int} (hx : 0 ≤ x ∧ x < kNm K) : ∀ (f : Nat) (m : Mm) (l3 : Int), CI X m c K B pf q → (0 ≤ l3 ∧ l3 ≤ 10) → (10 - l3).toNat = f → (∀ m', SmC m m' → Q (staysF K B pf q x f l3) m') → O_heelsToStay_2 X (d + 9) x l3 m Q := by
  intro f
  induction f with
  | zero =>
    intro m l3 hI h0 hf h
    exact O_heelsToStay_2w hB ⟨by omega, fun _ => h m (SmC.rf m), fun z => by omega⟩
  | succ f ih =>
    intro m l3 hI h0 hf h
    obtain ⟨b1, b2, b3, b4, -⟩ := hI.2.2.2.2.2 (by omega)
    have hK := b1.2.2.2.2.1
    have hn6 := hK.1
    refine O_heelsToStay_2w hB ⟨by omega, fun z => by omega, fun z => T_copy_c hB (by decide) (by decide) (by decide) (T_with_c ?_)⟩
    have hc : Sc 69 m (up (cpS m 69 17) 69 2 (wth (cpS m 69 17 69 2) x l3)) := (cp_sc (o := 17) (Or.inl rfl)).tr ⟨by rw [up_ne (Or.inl (by decide))], by rw [up_ne (Or.inl (by decide))], (Fr.rf _ _).up (by simp)⟩
    have hS : Sr K (wtB B) (up (cpS m 69 17) 69 2 (wth (cpS m 69 17 69 2) x l3) 69) (hlBy q x l3) := (Sr.cp b4 (s := 69) (f := q)).heel (by omega) hx (by omega) (up_same _ _ _ _) (fun j hj => up_ne (Or.inr hj))
    have hQ2 := b3.heel (v := l3) (by omega) hx (by omega)
    refine S_sideAtEnd_c hB (b1.of (Or.inr (Or.inl rfl)) hc) (Or.inr (Or.inl rfl)) b2.w hS hQ2 (fun m1 g1 g2 g3 => ?_)
    have hc2 := (hc.tr g3).sm (Or.inl rfl)
    have hE := end_ok (wt := wtB B) (pf := pf) hK hQ2
    have hab : bit (m1 69 4) x = 1 - bit (endA K (wtB B) pf (hlBy q x l3) 18) x := by rw [g1.2.1]; exact ab_bit hn6 hE.2.1 hx
    refine T_isAboard_c hB (by decide) (fun z2 => q0e ?_) (fun z2 => q1e ?_)
    · refine ih m1 (l3 + 1) (hI.sm hc2) (by omega) (by omega) (fun m' hs => ?_)
      have := h m' (hc2.tr hs)
      unfold staysF at this
      rw [if_neg (by omega)] at this
      exact this
    · have := h m1 hc2
      unfold staysF at this
      rw [if_pos (by omega)] at this
      exact this
theorem V_stays_c (hB : Bsh X.2.2.1) (hI : CI X m c K B pf q) {x : Int} (hx : R3 x) (h : ∀ m', SmC m m' → Q (FStays K B pf q x) m') : V_stays X (d + 12) x m Q := by
  have hn := hI.mem
  have h4 := hI.2.2.2.1
  refine V_staysw hB (V_isMember_c hB hI.1 hI.2.1 hn hx (fun z1 z2 => q1e ?_) (fun z => q0e ?_))
  · obtain ⟨b1, b2, b3, b4, -⟩ := hI.2.2.2.2.2 (by omega)
    have hab : bit (m 17 4) x = 1 - bit (q 18) x := by rw [b4.2.1]; exact ab_bit b1.2.2.2.2.1.1 b3.2.1 (by omega)
    have hF := h
    refine T_isAboard_c hB (by decide) (fun z3 => q0e ?_) (fun z3 => q1e ?_)
    · have := h m (SmC.rf m)
      unfold FStays at this
      rw [if_neg (by omega), if_pos (by omega)] at this
      exact this
    · refine O_heelsToStayw hB (O_heelsToStay_2_c hB (by omega) _ m 0 hI (by omega) rfl (fun m' hs => ?_))
      have := h m' hs
      unfold FStays at this
      rw [if_neg (by omega), if_neg (by omega)] at this
      exact this
  · have := h m (SmC.rf m)
    unfold FStays at this
    rw [if_pos (by omega)] at this
    exact this
theorem M_stays_20_c (hB : Bsh X.2.2.1) {x : Int} (hx : 0 ≤ x ∧ x < kNm K) : ∀ (f : Nat) (m : Mm) (l2 : Int), MI X m K B pf q → (0 ≤ l2 ∧ l2 ≤ 10) → (10 - l2).toNat = f → (∀ m', SmM m m' → Q (staysF K B pf q x f l2) m') → M_stays_20 X (d + 10) x l2 m Q := by
  intro f
  induction f with
  | zero =>
    intro m l2 hI h0 hf h
    exact M_stays_20w hB ⟨by omega, fun _ => h m (SmM.rf m), fun z => by omega⟩
  | succ f ih =>
    intro m l2 hI h0 hf h
    obtain ⟨b1, b2, b3⟩ := hI.2.2.2.2 (by omega)
    have ew := hI.w
    have e3 := hI.2.2.1
    have hn6 := b1.2.2.1.1
    refine M_stays_20w hB ⟨by omega, fun z => by omega, fun z => M_putAside_t hB (fun m1 t1 t2 t3 _ _ => ⟨by omega, ?_⟩)⟩
    have q1 : up m1 101 (x + 6) l2 101 = hlBy q x l2 := by
      funext j
      rw [up_at, t2, e3]
      unfold hlBy
      by_cases z2 : j = x + 6
      · rw [if_pos z2, if_pos (by omega)]
      · rw [if_neg z2, if_neg (by omega)]
    refine M_layEnd_c hB b1 (t1.set (by omega)) (by rw [ew]; exact b2.w) (by rw [q1]; exact b3.heel (by omega) hx (by omega)) (fun m3 s1 s2 s3 s4 _ _ => ?_)
    rw [q1, ew] at s3
    refine M_has_c (fun z2 => q0n ?_) (fun z2 => q1n ?_)
    · have := h m3 s1
      unfold staysF at this
      rw [if_pos (by rw [← s3]; exact z2)] at this
      exact this
    · refine ih m3 (l2 + 1) (hI.sm s1) (by omega) (by omega) (fun m' hs => ?_)
      have := h m' (s1.tr hs)
      unfold staysF at this
      rw [if_neg (by rw [← s3]; omega)] at this
      exact this
theorem M_stays_c (hB : Bsh X.2.2.1) (hI : MI X m K B pf q) {x : Int} (hx : R3 x) (h : ∀ m', SmM m m' → Q (FStays K B pf q x) m') : M_stays X (d + 12) x m Q := by
  have hn := hI.n
  have hr := hI.2.2.2.1
  have e3 := hI.2.2.1
  refine M_staysw hB (M_isMember_c hB (by omega) hx (fun z1 z2 => q1e ?_) (fun z => q0e ?_))
  · refine M_isOn_c hB (fun z3 => q1n ?_) (fun z3 => q0n ?_)
    · rw [e3] at z3
      refine M_stays_20_c hB (by omega) _ m 0 hI (by omega) rfl (fun m' hs => ?_)
      have := h m' hs
      unfold FStays at this
      rw [if_neg (by omega), if_neg (by omega)] at this
      exact this
    · rw [e3] at z3
      have := h m (SmM.rf m)
      unfold FStays at this
      rw [if_neg (by omega), if_pos (by omega)] at this
      exact this
  · have := h m (SmM.rf m)
    unfold FStays at this
    rw [if_pos (by omega)] at this
    exact this
end Look2
