/-! ===== walk, rows, undo ===== -/
theorem Sr.wk {K : Kn} {wt f f' q : Int → Int} (h : Sr K wt f q) (hn : kNm K ≤ 6) (e4 : f' 4 = pw (kNm K) - 1) (e7 : f' 7 = 0) (e8 : f' 8 = kR K 1) (e9 : f' 9 = f 9 + 1) (e : ∀ j, j ≠ 4 → j ≠ 7 → j ≠ 8 → j ≠ 9 → f' j = f j) : Sr K wt f' (wkQ K q) := by
  unfold Sr at *
  unfold wkQ
  obtain ⟨a1, a2, a3, a4, a5, a6, a7⟩ := h
  refine ⟨fun i h1 h2 => ?_, ?_, ?_, ?_, ?_, ?_, ?_⟩
  · rw [if_neg (by omega), if_neg (by omega), if_neg (by omega), if_neg (by omega), if_neg (c := 6 + i = 23) (by omega), if_neg (c := 6 + i = 18) (by omega), if_neg (c := 6 + i = 22) (by omega), if_neg (c := 6 + i = 21) (by omega), if_neg (c := 12 + i = 23) (by omega), if_neg (c := 12 + i = 18) (by omega), if_neg (c := 12 + i = 22) (by omega), if_neg (c := 12 + i = 21) (by omega), e 0 (by decide) (by decide) (by decide) (by decide), e 1 (by decide) (by decide) (by decide) (by decide), e 2 (by decide) (by decide) (by decide) (by decide), e 3 (by decide) (by decide) (by decide) (by decide)]
    exact a1 i h1 h2
  · rw [e4, if_neg (by decide), if_pos rfl, Int.sub_zero]
  · rw [e 5 (by decide) (by decide) (by decide) (by decide), if_neg (by decide), if_neg (by decide), if_neg (by decide), if_neg (by decide)]; exact a3
  · rw [e 6 (by decide) (by decide) (by decide) (by decide), if_neg (by decide), if_neg (by decide), if_neg (by decide), if_neg (by decide)]; exact a4
  · rw [e7, if_neg (by decide), if_neg (by decide), if_neg (by decide), if_pos rfl]
  · rw [e8, if_neg (by decide), if_neg (by decide), if_pos rfl]
  · rw [e9, if_pos rfl, a7]
theorem Qok.wk {K : Kn} {q : Int → Int} (h : Qok K q) (hK : Kok K) : Qok K (wkQ K q) := by
  have hn := hK.1
  have hpw := pw_le hn
  unfold Qok at *
  unfold wkQ
  obtain ⟨a1, a2, a3, a4, a5, a6⟩ := h
  refine ⟨fun i h1 h2 => ?_, ?_, ?_, ?_, ?_, ?_⟩
  · rw [if_neg (by omega), if_neg (by omega), if_neg (by omega), if_neg (by omega), if_neg (c := 6 + i = 23) (by omega), if_neg (c := 6 + i = 18) (by omega), if_neg (c := 6 + i = 22) (by omega), if_neg (c := 6 + i = 21) (by omega), if_neg (c := 12 + i = 23) (by omega), if_neg (c := 12 + i = 18) (by omega), if_neg (c := 12 + i = 22) (by omega), if_neg (c := 12 + i = 21) (by omega)]
    exact a1 i h1 h2
  · rw [if_neg (by decide), if_pos rfl]; omega
  · rw [if_neg (by decide), if_neg (by decide), if_neg (by decide), if_neg (by decide)]; exact a3
  · rw [if_neg (by decide), if_neg (by decide), if_neg (by decide), if_neg (by decide)]; exact a4
  · rw [if_neg (by decide), if_neg (by decide), if_neg (by decide), if_pos rfl]; have := hK.2.2.2.2.2.1; omega
  · rw [if_neg (by decide), if_neg (by decide), if_pos rfl]; exact hK.2.2.2.1
theorem wk_hi {K : Kn} {q : Int → Int} {j : Int} (h : 24 ≤ j) : wkQ K q j = q j := by
  unfold wkQ
  rw [if_neg (by omega), if_neg (by omega), if_neg (by omega), if_neg (by omega)]
section Acts3
variable {X : Cx} {d : Nat} {m m' : Mm} {A : Ab} {t : Int} {Q : Int → Mm → Prop} {Q0 : Mm → Prop} {q q' B : Int → Int} {AL AL' : List (Int → Int)} {r : Int} {c : Nat} {K : Kn} {pf : Pf}
/-- the class walks back -/
theorem T_walkBack_c (hB : Bsh X.2.2.1) (hc : cO c) (hk : Ck m c K) (hn : 0 ≤ kNm K ∧ kNm K ≤ 6) (hC : CR m K B q AL r) (h : ∀ m', CR m' K B (wkQ K q) AL r → FcS m m' → m' 17 10 = m 17 10 → m' 17 9 = q 23 + 1 → Q0 m') : T_walkBack X d 17 c m Q0 := by
  have e4 : m c 4 = kNm K := hk.2.1
  have e1 : m (c + 1) 1 = kR K 1 := hk.2.2.2.1 1 (by omega) (by omega)
  refine T_walkBackw hB hc (by decide) ?_
  rw [e4, e1, pw_e hn]
  have e9 : m 17 9 = q 23 := hC.1.2.2.2.2.2.2
  refine h _ (hC.q (hC.1.wk hn.2 ?_ ?_ ?_ ?_ (fun j h1 h2 h3 h4 => ?_)) ?_ (fun j hj => wk_hi hj) (fun a ha => by rw [up_off ha, up_off ha, up_off ha, up_off ha])) (((up17.tr up17).tr up17).tr up17) ?_ ?_
  · rw [up_ne (Or.inr (by decide)), up_same]
  · rw [up_ne (Or.inr (by decide)), up_ne (Or.inr (by decide)), up_ne (Or.inr (by decide)), up_same]
  · rw [up_ne (Or.inr (by decide)), up_ne (Or.inr (by decide)), up_same]
  · rw [up_same]
  · rw [up_ne (Or.inr h4), up_ne (Or.inr h1), up_ne (Or.inr h3), up_ne (Or.inr h2)]
  · rw [up_ne (Or.inr (by decide)), up_ne (Or.inr (by decide)), up_ne (Or.inr (by decide)), up_ne (Or.inr (by decide))]
  · rw [up_ne (Or.inr (by decide)), up_ne (Or.inr (by decide)), up_ne (Or.inr (by decide)), up_ne (Or.inr (by decide))]
  · rw [up_same, e9]
theorem M_walkBack_c (hB : Bsh X.2.2.1) (hk : kM m = K) (hM : MR m q AL) (h : ∀ m', MR m' (wkQ K q) AL → FmS m m' → Fr [101] m m' → Q0 m') : M_walkBack X d m Q0 := by
  have e1 : m 98 1 = kR K 1 := by rw [← hk]; rfl
  refine M_walkBackw hB ?_
  rw [e1, hM.1]
  refine h _ ⟨?_, by rw [up_ne (Or.inl (by decide)), up_ne (Or.inl (by decide)), up_ne (Or.inl (by decide)), up_ne (Or.inl (by decide))]; exact hM.2.1, hM.2.2.1, fun i hi j h1 h2 => by rw [up_ne (Or.inl (by decide)), up_ne (Or.inl (by decide)), up_ne (Or.inl (by decide)), up_ne (Or.inl (by decide))]; exact hM.2.2.2 i hi j h1 h2⟩ (((up101.tr up101).tr up101).tr up101) (((((Fr.rf _ _).up (by simp)).up (by simp)).up (by simp)).up (by simp))
  funext j
  rw [up_at, up_at, up_at, up_at, hM.1]
  rfl
theorem op_walk (hB : Bsh X.2.2.1) (hI : InvA X m A t) (ht : t + 1 ≤ 1000) : ∃ A', AOk A' (t + 1) ∧ Bth X A' t (V_walk X (d + 20)) (M_walk X (d + 20)) m := by
  have hn := hI.n
  obtain ⟨c, c2, b1, b2, b3, b4, b5, b6, b7, b8⟩ := hI.1.2.1
  have h4 := b7.2.1
  have hS := hI.1.S
  have e7 : m 17 7 = abQ A 21 := hS.2.2.2.2.1
  have hrow : 0 < kNm (abK A) → (0 ≤ abQ A 21 ∧ abQ A 21 ≤ kR (abK A) 3) ∧ (1 ≤ kR (abK A) 3 ∧ kR (abK A) 3 ≤ 20) := fun hp => ⟨(hI.q hp).1.2.2.2.2.1, (hI.k hp).2.2.2.2.2.1⟩
  have clV : ∀ Q : Int → Mm → Prop, (kNm (abK A) = 0 → Q (-1) (up m 82 0 (m 82 0 + 1))) → (0 < kNm (abK A) → abQ A 21 ≠ kR (abK A) 3 → Q (-1) (up m 82 4 (m 82 4 + 1))) → (0 < kNm (abK A) → abQ A 21 = kR (abK A) 3 → ∀ m' r, CR m' (abK A) (abB A) (wkQ (abK A) (abQ A)) (kpL (abL A) (abQ A)) r → 0 ≤ r → FcS m m' → m' 17 10 ≤ m 17 10 + 400 → Q (abQ A 23 + 1) m') → V_walk X (d + 20) m Q := by
    intro Q r0 r4 ac
    refine V_walkw hB (V_hasCanton_c hB b1 b4 (by omega) (fun hp => q1n ⟨c, b1, b4, K_lastRow_c hB b1 ?_⟩) (fun z => q0n (V_refuse_c hB (by omega) (r0 (by omega)))))
    have hr := hrow (by omega)
    have e3 : m (c + 1) 3 = kR (abK A) 3 := b7.2.2.2.1 3 (by omega) (by omega)
    rw [e3, e7]
    refine ⟨by omega, by omega, fun z => H_keepAct_c hB hI.1.2.2.2.1 (by decide) (fun m1 g1 g2 g3 => ⟨by rw [g2.2.2.2 0 (by omega)]; exact b4, ?_⟩), fun z => V_refuse_c hB (by omega) (r4 (by omega) (by omega))⟩
    refine T_walkBack_c hB b1 (b7.fr (g2.2.2.2 _ (by omega)) (g2.2.2.2 _ (by omega)) (g2.2.2.2 _ (by omega))) hn g1 (fun m2 k1 k2 k3 k4 => ?_)
    rw [k4]
    exact ac (by omega) (by omega) m2 20 k1 (by decide) (g2.tr k2) (by rw [k3, g3]; omega)
  have clM : ∀ (m1 : Mm) (Q : Int → Mm → Prop), MW m1 A → (kNm (abK A) = 0 → Q (-1) (up m1 102 0 (m1 102 0 + 1))) → (0 < kNm (abK A) → abQ A 21 ≠ kR (abK A) 3 → Q (-1) (up m1 102 4 (m1 102 4 + 1))) → (0 < kNm (abK A) → abQ A 21 = kR (abK A) 3 → ∀ m', MR m' (wkQ (abK A) (abQ A)) (kpL (abL A) (abQ A)) → FmS m1 m' → Q (abQ A 23 + 1) m') → M_walk X (d + 20) m1 Q := by
    intro m1 Q hM r0 r4 ac
    have e28 := hM.n
    have e101 := hM.q
    have e98 : m1 98 3 = kR (abK A) 3 := by rw [← hM.2.1]; rfl
    refine M_walkw hB ⟨by omega, fun hp => ?_, fun z => M_isRefused_c hB (by decide) (fun e => absurd e (by decide)) (fun _ => q1e (r0 (by omega)))⟩
    have hr := hrow (by omega)
    have e21 : m1 101 21 = abQ A 21 := by rw [e101]
    refine M_isLast_c hB (by omega) (by omega) (fun z => q1n (M_isRefused_c hB (by decide) (fun _ => q0e (M_keep_c hB hM.2.2.2.2.1 (fun m2 g1 g2 => M_walkBack_c hB (K := abK A) ?_ g1 (fun m3 k1 k2 k3 => ?_)))) (fun e => absurd rfl e))) (fun z => q0n (M_isRefused_c hB (by decide) (fun e => absurd e (by decide)) (fun _ => q1e (r4 (by omega) (by omega)))))
    · rw [← hM.2.1]
      unfold kM
      rw [g2.1 27 (by unfold scF; omega) (by decide), g2.1 28 (by unfold scF; omega) (by decide), g2.1 29 (by unfold scF; omega) (by decide), g2.2 98 (by decide), g2.2 99 (by decide)]
    · have e23 : m3 101 23 = abQ A 23 + 1 := by rw [k1.1]; rfl
      rw [e23]
      exact ac (by omega) (by omega) m3 k1 (g2.tr k2)
  by_cases c0 : kNm (abK A) = 0
  · exact bth_rf hI ht (i := 0) (by decide) (fun Q h => clV Q (fun _ => h) (fun _ _ => by omega) (fun _ _ => by omega)) (fun m1 Q h1 h => clM m1 Q h1 (fun _ => h) (fun _ _ => by omega) (fun _ _ => by omega))
  by_cases c1 : abQ A 21 = kR (abK A) 3
  · have hqo := hI.q (by omega)
    refine bth_act hI ht (by omega) (q' := wkQ (abK A) (abQ A)) (AL' := kpL (abL A) (abQ A)) (F := abQ A 23 + 1) ⟨hqo.1.wk (hI.k (by omega)), ?_, ?_⟩ (fun a ha => (kp_mem ha).elim Or.inl (fun e => Or.inr (Or.inl e))) (fun Q h => clV Q (fun _ => by omega) (fun _ z => absurd c1 z) (fun _ _ => h)) (fun m1 Q h1 h => clM m1 Q h1 (fun _ => by omega) (fun _ z => absurd c1 z) (fun _ _ => h))
    · show 0 ≤ abQ A 23 + 1
      have := hqo.2.1
      omega
    · show abQ A 23 + 1 ≤ 20 * (t + 1)
      have := hqo.2.2
      omega
  · exact bth_rf hI ht (i := 4) (by decide) (fun Q h => clV Q (fun _ => by omega) (fun _ _ => h) (fun _ z => absurd z c1)) (fun m1 Q h1 h => clM m1 Q h1 (fun _ => by omega) (fun _ _ => h) (fun _ z => absurd z c1))
/-! rows -/
def rwS (K : Kn) (wt : Int → Int) (pf : Pf) : Nat → (Int → Int) × List (Int → Int) → (Int → Int) × List (Int → Int)
  | 0, s => s
  | f + 1, s => rwS K wt pf f (passA K wt pf s.1, kpL s.2 s.1)
theorem pass_ok {wt : Int → Int} (hK : Kok K) (hQ : Qok K q) (h : q 21 < kR K 3) (h24 : 0 ≤ q 24 ∧ q 24 ≤ 60) : Qok K (passA K wt pf q) ∧ passA K wt pf q 21 = q 21 + 1 ∧ passA K wt pf q 23 = q 23 ∧ (0 ≤ passA K wt pf q 24 ∧ passA K wt pf q 24 ≤ 60) := by
  refine ⟨(slideA_ok hK hQ h).cq hK.1.2 (fun j h1 h2 => pass_low h24 ⟨h1, h2⟩), ?_, ?_, ?_⟩
  · rw [pass_low h24 (by decide)]; rfl
  · rw [pass_low h24 (by decide)]; rfl
  · have e24 : slideA K wt pf q 24 = q 24 := rfl
    have h2 := sh24 (q := slideA K wt pf q) (by rw [e24]; exact h24)
    have e : passA K wt pf q 24 = shA (slideA K wt pf q) 24 + 1 := by unfold passA noteA; rw [if_pos rfl]
    omega
theorem V_rows_57_c (hB : Bsh X.2.2.1) (hBk : Bok K B) {m0 : Mm} {x : Int} (hx : x ≤ 20) : ∀ (f : Nat) (m : Mm) (l2 : Int) (q : Int → Int) (AL : List (Int → Int)) (r : Int), Cv X m c K pf → Qok K q → CR m K B q AL r → 0 ≤ r → 0 ≤ l2 → x - l2 = f → q 21 + f ≤ kR K 3 → FcS m0 m → m 17 10 = m0 17 10 + l2 → (∀ m' r, CR m' K B (rwS K (wtB B) pf f (q, AL)).1 (rwS K (wtB B) pf f (q, AL)).2 r → 0 ≤ r → FcS m0 m' → m' 17 10 = m0 17 10 + x → Q ((rwS K (wtB B) pf f (q, AL)).1 22) m') → V_rows_57 X (d + 10) x l2 m Q := by
  intro f
  induction f with
  | zero =>
    intro m l2 q AL r hv hQ hC hr hl hf hrow hs h10 h
    have e8 : m 17 8 = q 22 := hC.1.2.2.2.2.2.1
    refine V_rows_57w hB ⟨by omega, by omega, fun _ => ?_, fun z => by omega⟩
    rw [e8]
    exact h m r hC hr hs (by omega)
  | succ f ih =>
    intro m l2 q AL r hv hQ hC hr hl hf hrow hs h10 h
    refine V_rows_57w hB ⟨by omega, by omega, fun z => by omega, fun _ => H_keepAct_c hB hC hr (fun m1 g1 g2 g3 => V_goARow_c hB (r := 19) (hv.fcs g2) hBk hQ (by omega) g1 (by decide) (fun m2 k1 k2 k3 => ?_))⟩
    have hp := pass_ok (wt := wtB B) (pf := pf) hv.2.2.2.2.1 hQ (by omega) hC.2.1.1.1
    exact ih m2 (l2 + 1) _ _ 19 ((hv.fcs g2).fcs k2) hp.1 k1 (by decide) (by omega) (by omega) (by rw [hp.2.1]; omega) ((hs.tr g2).tr k2) (by rw [k3, g3]; omega) h
theorem M_rows_56_c (hB : Bsh X.2.2.1) {m0 : Mm} {x : Int} (hx : x ≤ 20) (hW : Wok K (wtM m0)) : ∀ (f : Nat) (m : Mm) (l2 : Int) (q : Int → Int) (AL : List (Int → Int)), Mv X m K pf → Qok K q → MR m q AL → (0 ≤ q 24 ∧ q 24 ≤ 60) → 0 ≤ l2 → x - l2 = f → q 21 + f ≤ kR K 3 → FmS m0 m → (∀ m', MR m' (rwS K (wtM m0) pf f (q, AL)).1 (rwS K (wtM m0) pf f (q, AL)).2 → FmS m0 m' → Q ((rwS K (wtM m0) pf f (q, AL)).1 22) m') → M_rows_59 X (d + 10) x l2 m Q := by
  intro f
  induction f with
  | zero =>
    intro m l2 q AL hv hQ hM h24 hl hf hrow hs h
    refine M_rows_59w hB ⟨by omega, by omega, fun _ => ?_, fun z => by omega⟩
    rw [hM.1]
    exact h m hM hs
  | succ f ih =>
    intro m l2 q AL hv hQ hM h24 hl hf hrow hs h
    refine M_rows_59w hB ⟨by omega, by omega, fun z => by omega, fun _ => M_keep_c hB hM (fun m1 g1 g2 => ?_)⟩
    have hs1 := hs.tr g2
    have ew : wtM m1 = wtM m0 := by unfold wtM; rw [hs1.2 100 (by decide)]
    have eq1 := g1.1
    refine M_passRow_c hB (hv.fms g2) (by rw [ew]; exact hW) (by rw [eq1]; exact hQ) (by rw [eq1]; exact h24) (fun m2 k1 k2 k3 => ?_)
    rw [ew, eq1] at k1
    have hp := pass_ok (wt := wtM m0) (pf := pf) hv.2.2.1 hQ (by omega) h24
    have s2 : FmS m1 m2 := ⟨fun k hk _ => k3 k (fun z => hk (Or.inl z)), k2.wd (by decide)⟩
    exact ih m2 (l2 + 1) _ _ ((hv.fms g2).fms s2) hp.1 ⟨k1, by rw [k3 36 (by decide)]; exact g1.2.1, g1.2.2.1, by rw [k2 103 (by decide)]; exact g1.2.2.2⟩ hp.2.2.2 (by omega) (by omega) (by rw [hp.2.1]; omega) (hs1.tr s2) h
end Acts3
