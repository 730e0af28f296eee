/-! ===== sessions: both sides ===== -/
theorem ss_ok {K : Kn} {wt : Int → Int} {pf : Pf} {dg : Int} {q : Int → Int} (hK : Kok K) (h : Qok K q) (h24 : 0 ≤ q 24 ∧ q 24 ≤ 60) (s : Int) : Qok K (ssS K wt pf dg q s).1 ∧ (q 23 ≤ (ssS K wt pf dg q s).1 23 ∧ (ssS K wt pf dg q s).1 23 ≤ q 23 + 1) ∧ (0 ≤ (ssS K wt pf dg q s).1 24 ∧ (ssS K wt pf dg q s).1 24 ≤ 60) := by
  have hn := hK.1
  obtain ⟨a1, a2, a3, a4⟩ := sw0_ok hK h
  obtain ⟨b1, b2⟩ := dlQ_ok hn.2 (kNm K).toNat 0 (sw0 K q) s a1 (by omega) (by omega)
  obtain ⟨q2, hq2⟩ : ∃ q2, q2 = (dgQ K dg (dlQ (kNm K).toNat 0 (sw0 K q) s).1 (dlQ (kNm K).toNat 0 (sw0 K q) s).2).1 := ⟨_, rfl⟩
  have hq : Qok K q2 ∧ ∀ j, 18 ≤ j → q2 j = sw0 K q j := by
    rw [hq2]
    unfold dgQ
    split
    · have r1 := drV_r (drS (dlQ (kNm K).toNat 0 (sw0 K q) s).2) (x := kNm K) (by omega)
      have r2 := drV_r (drS (drS (dlQ (kNm K).toNat 0 (sw0 K q) s).2)) (x := kNm K) (by omega)
      refine ⟨chQ_ok b1 hn.2 r1 r2, fun j hj => ?_⟩
      rw [← b2 j hj]
      show chQ _ _ _ j = _
      unfold chQ
      rw [if_neg (by omega), if_neg (by omega)]
    · exact ⟨b1, b2⟩
  have e24 : q2 24 = q 24 := by rw [hq.2 24 (by omega), a3 24 (by omega)]
  have e23 : q2 23 = sw0 K q 23 := hq.2 23 (by omega)
  have hr := hq.1.2.2.2.2.1
  obtain ⟨c1, c2, c3⟩ := psS_ok (wt := wt) (pf := pf) hK (kR K 3 - q2 21).toNat q2 hq.1 (by omega) (by omega)
  have e : (ssS K wt pf dg q s).1 = psS K wt pf (kR K 3 - q2 21).toNat q2 := by rw [hq2]; rfl
  rw [e]
  exact ⟨c1, by omega, c3⟩
def snS (K : Kn) (wt : Int → Int) (pf : Pf) (dg : Int) : Nat → (Int → Int) → Int → List (Int → Int) → (Int → Int) × List (Int → Int)
  | 0, q, _, AL => (q, AL)
  | f + 1, q, s, AL => snS K wt pf dg f (ssS K wt pf dg q s).1 (ssS K wt pf dg q s).2 (kpL AL q)
theorem sn_ok {K : Kn} {wt : Int → Int} {pf : Pf} {dg : Int} (hK : Kok K) : ∀ (f : Nat) (q : Int → Int) (s : Int) (AL : List (Int → Int)), Qok K q → (0 ≤ q 24 ∧ q 24 ≤ 60) → Qok K (snS K wt pf dg f q s AL).1 ∧ (q 23 ≤ (snS K wt pf dg f q s AL).1 23 ∧ (snS K wt pf dg f q s AL).1 23 ≤ q 23 + f) ∧ ∀ a ∈ (snS K wt pf dg f q s AL).2, a = q ∨ a ∈ AL ∨ (Qok K a ∧ q 23 ≤ a 23 ∧ a 23 ≤ q 23 + f) := by
  intro f
  induction f with
  | zero => intro q s AL h _; exact ⟨h, by show q 23 ≤ q 23 ∧ q 23 ≤ q 23 + ((0 : Nat) : Int); omega, fun a ha => Or.inr (Or.inl ha)⟩
  | succ f ih =>
    intro q s AL h h24
    obtain ⟨a1, a2, a3⟩ := ss_ok (wt := wt) (pf := pf) (dg := dg) hK h h24 s
    obtain ⟨b1, b2, b3⟩ := ih (ssS K wt pf dg q s).1 (ssS K wt pf dg q s).2 (kpL AL q) a1 a3
    refine ⟨b1, ?_, fun a ha => ?_⟩
    · show q 23 ≤ (snS K wt pf dg f (ssS K wt pf dg q s).1 (ssS K wt pf dg q s).2 (kpL AL q)).1 23 ∧ (snS K wt pf dg f (ssS K wt pf dg q s).1 (ssS K wt pf dg q s).2 (kpL AL q)).1 23 ≤ _
      omega
    · rcases b3 a ha with e | e | ⟨e1, e2, e3⟩
      · right; right
        rw [e]
        exact ⟨a1, by omega, by omega⟩
      · rcases kp_mem e with e | e
        · exact Or.inl e
        · exact Or.inr (Or.inl e)
      · exact Or.inr (Or.inr ⟨e1, by omega, by omega⟩)
section Sess2
variable {X : Cx} {d : Nat} {m m' : Mm} {A : Ab} {t : Int} {Q : Int → Mm → Prop} {Q0 : Mm → Prop} {c : Nat} {K : Kn} {B q : Int → Int} {pf : Pf} {AL : List (Int → Int)} {dg : Int}
theorem V_holdSession_c (hB : Bsh X.2.2.1) (hBk : Bok K B) (hdg : 0 ≤ dg ∧ dg ≤ 9) (hv : Cv X m c K pf) (h6 : m 0 6 = (c : Int)) (h14 : m 0 14 = dg) (hQ : Qok K q) (hC : CR m K B q AL 20) (h : ∀ m' r', 0 ≤ r' → CR m' K B (ssS K (wtB B) pf dg q (m 0 15)).1 AL r' → m' 0 15 = (ssS K (wtB B) pf dg q (m 0 15)).2 → FcD m m' → m' 17 10 ≤ m 17 10 + 20 → Q0 m') : V_holdSession X (d + 9) m Q0 := by
  have hK := hv.2.2.2.2.1
  have hn := hK.1
  have e3 : m (c + 1) 3 = kR K 3 := hv.2.2.1.2.2.2.1 3 (by omega) (by omega)
  have e7 : m 17 7 = q 21 := hC.1.2.2.2.2.1
  have hr := hQ.2.2.2.2.1
  have hk := hK.2.2.2.2.2.1
  obtain ⟨a1, a2, a3, a4⟩ := sw0_ok hK hQ
  have go : ∀ m1 : Mm, CR m1 K B (sw0 K q) AL 20 → FcS m m1 → m1 17 10 = m 17 10 → V_holdSession_30 X (d + 9) 0 m1 Q0 := by
    intro m1 g1 g2 g3
    have e0 : m1 0 = m 0 := g2.2.2.2 0 (by omega)
    refine V_hold_30_c hB hBk (by omega) hdg (kNm K).toNat m1 0 (sw0 K q) (hv.fcs g2) (by rw [e0]; exact h6) (by rw [e0]; exact h14) a1 g1 (by omega) (by omega) (fun m' q' s' r' k0 k1 k2 k3 k4 k5 k6 => ?_)
    rw [e0] at k1 k2
    have e1 : psS K (wtB B) pf (kR K 3 - q' 21).toNat q' = (ssS K (wtB B) pf dg q (m 0 15)).1 := by rw [k1]; rfl
    have e2 : s' = (ssS K (wtB B) pf dg q (m 0 15)).2 := by rw [k2]; rfl
    rw [e1] at k3
    exact h m' r' k0 k3 (k4.trans e2) (g2.d.tr k5) (by omega)
  refine V_holdSessionw hB ⟨c, hv.1, h6, K_lastRow_c hB hv.1 ⟨by omega, by omega, fun z => ?_, fun z => ⟨h6, T_walkBack_c hB hv.1 hv.2.2.1 (by omega) hC (fun m1 g1 g2 g3 _ => ?_)⟩⟩⟩
  · refine go m ?_ (FcS.rf m) rfl
    have e : sw0 K q = q := by unfold sw0; rw [if_neg (by omega)]
    rw [e]
    exact hC
  · refine go m1 ?_ g2 g3
    have e : sw0 K q = wkQ K q := by unfold sw0; rw [if_pos (by omega)]
    rw [e]
    exact g1
theorem V_sessions_28_c (hB : Bsh X.2.2.1) (hBk : Bok K B) (hdg : 0 ≤ dg ∧ dg ≤ 9) {x y : Int} (hx : x ≤ 20) : ∀ (f : Nat) (m : Mm) (l4 : Int) (q : Int → Int) (s : Int) (AL : List (Int → Int)) (r : Int), Cv X m c K pf → m 0 6 = (c : Int) → m 0 14 = dg → m 0 15 = s → Qok K q → CR m K B q AL r → 0 ≤ r → 0 ≤ l4 → x - l4 = f → (∀ m' r', CR m' K B (snS K (wtB B) pf dg f q s AL).1 (snS K (wtB B) pf dg f q s AL).2 r' → 0 ≤ r' → FcD m m' → m' 17 10 ≤ m 17 10 + 20 * f → Q ((snS K (wtB B) pf dg f q s AL).1 22) m') → V_sessions_28 X (d + 10) x y l4 m Q := by
  intro f
  induction f with
  | zero =>
    intro m l4 q s AL r hv h6 h14 h15 hQ hC hr hl hf h
    refine V_sessions_28w hB ⟨by omega, by omega, fun _ => ?_, fun z => by omega⟩
    rw [hC.1.2.2.2.2.2.1]
    exact h m r hC hr (FcD.rf m) (by omega)
  | succ f ih =>
    intro m l4 q s AL r hv h6 h14 h15 hQ hC hr hl hf h
    have hK := hv.2.2.2.2.1
    refine V_sessions_28w hB ⟨by omega, by omega, fun z => by omega, fun _ => H_keepAct_c hB hC hr (fun m1 g1 g2 g3 => ?_)⟩
    have e0 : m1 0 = m 0 := g2.2.2.2 0 (by omega)
    refine V_holdSession_c hB hBk hdg (hv.fcs g2) (by rw [e0]; exact h6) (by rw [e0]; exact h14) hQ g1 (fun m2 r2 k0 k1 k2 k3 k4 => ?_)
    rw [e0, h15] at k1 k2
    have f2 : FcD m m2 := g2.d.tr k3
    have ok := ss_ok (wt := wtB B) (pf := pf) (dg := dg) hK hQ hC.2.1.1.1 s
    refine ih m2 (l4 + 1) _ _ (kpL AL q) r2 (hv.fcd f2) ((f2.2.2.2.1 6 (by decide)).trans h6) ((f2.2.2.2.1 14 (by decide)).trans h14) k2 ok.1 k1 k0 (by omega) (by omega) (fun m' r' w1 w2 w3 w4 => h m' r' w1 w2 (f2.tr w3) ?_)
    have e10 : m1 17 10 = m 17 10 := by rw [g3]
    omega
/-! the reference -/
theorem M_draw_77_c (hB : Bsh X.2.2.1) (hW : Wok K (wtB B)) : ∀ (f : Nat) (m : Mm) (l1 : Int) (o : Option Int) (q : Int → Int), Mv X m K pf → m 100 = B → Qok K q → MR m q AL → (0 ≤ q 24 ∧ q 24 ≤ 60) → (kR K 3 - q 21).toNat = f → (∀ m', MR m' (psS K (wtB B) pf f q) AL → FmS m m' → m' 83 37 = m 83 37 → Q0 m') → M_drawSession_77 X (d + 9) l1 o m Q0 := by
  intro f
  induction f with
  | zero =>
    intro m l1 o q hv h100 hQ hM h24 hf h
    have e98 : m 98 3 = kR K 3 := by rw [← hv.1]; rfl
    have hro := hQ.2.2.2.2.1
    have hk := hv.2.2.1.2.2.2.2.2.1
    have e21 : m 101 21 = q 21 := by rw [hM.1]
    exact M_drawSession_77w hB (M_isLast_c hB (by omega) (by omega) (fun _ => q1n (h m hM (FmS.rf m) rfl)) (fun z => by omega))
  | succ f ih =>
    intro m l1 o q hv h100 hQ hM h24 hf h
    have e98 : m 98 3 = kR K 3 := by rw [← hv.1]; rfl
    have hro := hQ.2.2.2.2.1
    have hk := hv.2.2.1.2.2.2.2.2.1
    have e21 : m 101 21 = q 21 := by rw [hM.1]
    have ew : wtM m = wtB B := by rw [← h100]; rfl
    refine M_drawSession_77w hB (M_isLast_c hB (by omega) (by omega) (fun z => by omega) (fun z => q0n (M_passRow_c hB hv (by rw [ew]; exact hW) (by rw [hM.1]; exact hQ) (by rw [hM.1]; exact h24) (fun m2 k1 k2 k3 => ?_))))
    rw [ew, hM.1] at k1
    have hp := pass_ok (wt := wtB B) (pf := pf) hv.2.2.1 hQ (by omega) h24
    have s2 : FmS m m2 := ⟨fun k hk _ => k3 k (fun z => hk (Or.inl z)), k2.wd (by decide)⟩
    refine ih m2 l1 o _ (hv.fms s2) (by rw [k2 100 (by decide)]; exact h100) hp.1 ⟨k1, by rw [k3 36 (by decide)]; exact hM.2.1, hM.2.2.1, by rw [k2 103 (by decide)]; exact hM.2.2.2⟩ hp.2.2.2 (by rw [hp.2.1]; omega) (fun m' w1 w2 w3 => h m' w1 (s2.tr w2) (w3.trans (k3 37 (by decide))))
theorem MR.qq (h : MR m q AL) {q' : Int → Int} (e : m' 101 = q') (e36 : m' 83 36 = m 83 36) (e103 : m' 103 = m 103) : MR m' q' AL := ⟨e, e36.trans h.2.1, h.2.2.1, by rw [e103]; exact h.2.2.2⟩
theorem FmD.up37 {v : Int} : FmD m (up m 83 37 v) := ⟨fun k _ _ hk => up_ne (Or.inr hk), (Fr.rf _ _).up (by simp)⟩
theorem M_draw_13_c (hB : Bsh X.2.2.1) (hW : Wok K (wtB B)) (hdg : 0 ≤ dg ∧ dg ≤ 9) : ∀ (f : Nat) (m : Mm) (l1 : Int) (q : Int → Int), Mv X m K pf → m 100 = B → m 83 33 = dg → Qok K q → MR m q AL → (0 ≤ q 24 ∧ q 24 ≤ 60) → 0 ≤ l1 → kNm K - l1 = f → (∀ m' q' s', q' = (dgQ K dg (dlQ f l1 q (m 83 37)).1 (dlQ f l1 q (m 83 37)).2).1 → s' = (dgQ K dg (dlQ f l1 q (m 83 37)).1 (dlQ f l1 q (m 83 37)).2).2 → MR m' (psS K (wtB B) pf (kR K 3 - q' 21).toNat q') AL → m' 83 37 = s' → FmD m m' → Q0 m') → M_drawSession_13 X (d + 9) l1 m Q0 := by
  intro f
  induction f with
  | zero =>
    intro m l1 q hv h100 h33 hQ hM h24 hl hf h
    have hK := hv.2.2.1
    have hn := hK.1
    have e28 : m 83 28 = kNm K := by rw [← hv.1]; rfl
    have d10 := drV_r (m 83 37) (x := 10) (by decide)
    have o0 : ∀ m2 : Mm, FmD m m2 → m2 83 28 = kNm K ∧ m2 83 33 = dg ∧ m2 100 = B := fun m2 g => ⟨(g.1 28 (by unfold scF; omega) (by decide) (by decide)).trans e28, (g.1 33 (by unfold scF; omega) (by decide) (by decide)).trans h33, by rw [g.2 100 (by decide)]; exact h100⟩
    have mrU : ∀ (m2 : Mm) (v : Int), MR m2 q AL → MR (up m2 83 37 v) q AL := fun m2 v g => g.qq (by rw [up_off (by decide)]; exact g.1) (up_ne (Or.inr (by decide))) (up_off (by decide))
    have fin : ∀ (m2 : Mm) (q2 : Int → Int) (s2 : Int) (l : Int) (o : Option Int), q2 = (dgQ K dg q (m 83 37)).1 → s2 = (dgQ K dg q (m 83 37)).2 → Qok K q2 → q2 24 = q 24 → MR m2 q2 AL → m2 83 37 = s2 → FmD m m2 → M_drawSession_77 X (d + 9) l o m2 Q0 := by
      intro m2 q2 s2 l o e1 e2 hQ2 h242 hM2 e37 hf2
      exact M_draw_77_c hB hW (kR K 3 - q2 21).toNat m2 l o q2 (hv.fmd hf2) (o0 m2 hf2).2.2 hQ2 hM2 (by omega) rfl (fun m' g1 g2 g3 => h m' q2 s2 e1 e2 g1 (g3.trans e37) (hf2.tr g2.d))
    refine M_drawSession_13w hB ⟨by omega, by omega, fun _ => M_draw_c hB (by decide) ?_, fun z => by omega⟩
    have u1 : FmD m (up m 83 37 (drS (m 83 37))) := FmD.up37
    have e1 := o0 _ u1
    rw [e1.2.1]
    refine ⟨by omega, by omega, fun z => fin _ q (drS (m 83 37)) _ _ ?_ ?_ hQ rfl (mrU m _ hM) (up_same _ _ _ _) u1, fun z => ?_⟩
    · unfold dgQ; rw [if_neg (by omega)]
    · unfold dgQ; rw [if_neg (by omega)]
    · rw [e1.1]
      refine M_draw_c hB (by omega) ?_
      rw [up_same]
      have u2 : FmD m (up (up m 83 37 (drS (m 83 37))) 83 37 (drS (drS (m 83 37)))) := u1.tr FmD.up37
      have e2 := o0 _ u2
      rw [e2.1]
      refine M_draw_c hB (by omega) ?_
      rw [up_same]
      have u3 : FmD m (up (up (up m 83 37 (drS (m 83 37))) 83 37 (drS (drS (m 83 37)))) 83 37 (drS (drS (drS (m 83 37))))) := u2.tr FmD.up37
      have ra := drV_r (drS (m 83 37)) (x := kNm K) (by omega)
      have rb := drV_r (drS (drS (m 83 37))) (x := kNm K) (by omega)
      have eD : dgQ K dg q (m 83 37) = (chQ q (drV (drS (m 83 37)) (kNm K)) (drV (drS (drS (m 83 37))) (kNm K)), drS (drS (drS (m 83 37)))) := by unfold dgQ; rw [if_pos z]
      have c3 := mrU _ (drS (drS (drS (m 83 37)))) (mrU _ (drS (drS (m 83 37))) (mrU m (drS (m 83 37)) hM))
      obtain ⟨m3, hm3⟩ : ∃ m3, m3 = up (up (up m 83 37 (drS (m 83 37))) 83 37 (drS (drS (m 83 37)))) 83 37 (drS (drS (drS (m 83 37)))) := ⟨_, rfl⟩
      rw [← hm3] at u3 c3 ⊢
      have e37 : m3 83 37 = drS (drS (drS (m 83 37))) := by rw [hm3]; exact up_same _ _ _ _
      obtain ⟨x, hx⟩ : ∃ x, x = drV (drS (m 83 37)) (kNm K) := ⟨_, rfl⟩
      obtain ⟨y, hy⟩ : ∃ y, y = drV (drS (drS (m 83 37))) (kNm K) := ⟨_, rfl⟩
      rw [← hx] at ra eD ⊢
      rw [← hy] at rb eD ⊢
      refine M_changeNoww hB ⟨by omega, by omega, ?_⟩
      have f4 : FmS m3 (up (up m3 101 (x + 12) (m3 101 (y + 12))) 101 (y + 12) (m3 101 (x + 12))) := up101.tr up101
      have eo : ∀ a, a ≠ 101 → up (up m3 101 (x + 12) (m3 101 (y + 12))) 101 (y + 12) (m3 101 (x + 12)) a = m3 a := fun a ha => by rw [up_off ha, up_off ha]
      refine fin _ (chQ q x y) (drS (drS (drS (m 83 37)))) _ _ (by rw [eD]) (by rw [eD]) (chQ_ok hQ hn.2 ra rb) (by unfold chQ; rw [if_neg (by omega), if_neg (by omega)]) (c3.qq ?_ (by rw [eo 83 (by decide)]) (eo 103 (by decide))) (by rw [eo 83 (by decide)]; exact e37) (u3.tr f4.d)
      funext j
      rw [up_at, up_at, c3.1]
      rfl
  | succ f ih =>
    intro m l1 q hv h100 h33 hQ hM h24 hl hf h
    have hK := hv.2.2.1
    have hn := hK.1
    have e28 : m 83 28 = kNm K := by rw [← hv.1]; rfl
    have d3 := drV_r (m 83 37) (x := 3) (by decide)
    refine M_drawSession_13w hB ⟨by omega, by omega, fun z => by omega, fun _ => M_draw_c hB (by decide) ⟨by omega, ?_⟩⟩
    have u1 : FmD m (up m 83 37 (drS (m 83 37))) := FmD.up37
    obtain ⟨m1, hm1⟩ : ∃ m1, m1 = up m 83 37 (drS (m 83 37)) := ⟨_, rfl⟩
    rw [← hm1] at u1 ⊢
    have f2 : FmD m (up m1 101 l1 (drV (m 83 37) 3)) := u1.tr up101.d
    have e37 : up m1 101 l1 (drV (m 83 37) 3) 83 37 = drS (m 83 37) := by rw [up_ne (Or.inl (by decide)), hm1]; exact up_same _ _ _ _
    have mr2 : MR (up m1 101 l1 (drV (m 83 37) 3)) (lnBy q l1 (drV (m 83 37) 3)) AL := by
      refine hM.qq ?_ (by rw [up_ne (Or.inl (by decide)), hm1, up_ne (Or.inr (by decide))]) (by rw [up_off (by decide), hm1, up_off (by decide)])
      funext j
      rw [up_at, hm1, up_off (by decide), hM.1]
      rfl
    refine ih _ (l1 + 1) (lnBy q l1 (drV (m 83 37) 3)) (hv.fmd f2) (by rw [f2.2 100 (by decide)]; exact h100) ((f2.1 33 (by unfold scF; omega) (by decide) (by decide)).trans h33) (lnBy_ok hQ hn.2 (by omega) (by omega)) mr2 (by unfold lnBy; rw [if_neg (by omega)]; exact h24) (by omega) (by omega) (fun m' q' s' g1 g2 g3 g4 g5 => ?_)
    rw [e37] at g1 g2
    exact h m' q' s' g1 g2 g3 g4 (f2.tr g5)
theorem M_drawSession_c (hB : Bsh X.2.2.1) (hW : Wok K (wtB B)) (hdg : 0 ≤ dg ∧ dg ≤ 9) (hv : Mv X m K pf) (h100 : m 100 = B) (h33 : m 83 33 = dg) (hQ : Qok K q) (h24 : 0 ≤ q 24 ∧ q 24 ≤ 60) (hM : MR m q AL) (h : ∀ m', MR m' (ssS K (wtB B) pf dg q (m 83 37)).1 AL → m' 83 37 = (ssS K (wtB B) pf dg q (m 83 37)).2 → FmD m m' → Q0 m') : M_drawSession X (d + 9) m Q0 := by
  have hK := hv.2.2.1
  have hn := hK.1
  have e98 : m 98 3 = kR K 3 := by rw [← hv.1]; rfl
  have hro := hQ.2.2.2.2.1
  have hk := hK.2.2.2.2.2.1
  have e21 : m 101 21 = q 21 := by rw [hM.1]
  obtain ⟨a1, a2, a3, a4⟩ := sw0_ok hK hQ
  have e24 := a3 24 (by omega)
  have go : ∀ m1 : Mm, MR m1 (sw0 K q) AL → FmS m m1 → m1 83 37 = m 83 37 → M_drawSession_13 X (d + 9) 0 m1 Q0 := by
    intro m1 g1 g2 g3
    refine M_draw_13_c hB hW hdg (kNm K).toNat m1 0 (sw0 K q) (hv.fms g2) (by rw [g2.2 100 (by decide)]; exact h100) ((g2.1 33 (by unfold scF; omega) (by decide)).trans h33) a1 g1 (by omega) (by omega) (by omega) (fun m' q' s' k1 k2 k3 k4 k5 => ?_)
    rw [g3] at k1 k2
    have e1 : psS K (wtB B) pf (kR K 3 - q' 21).toNat q' = (ssS K (wtB B) pf dg q (m 83 37)).1 := by rw [k1]; rfl
    have e2 : s' = (ssS K (wtB B) pf dg q (m 83 37)).2 := by rw [k2]; rfl
    rw [e1] at k3
    exact h m' k3 (k4.trans e2) (g2.d.tr k5)
  refine M_drawSessionw hB (M_isLast_c hB (by omega) (by omega) (fun z => q1e (M_walkBack_c hB hv.1 hM (fun m1 g1 g2 g3 => ?_))) (fun z => q0e ?_))
  · refine go m1 ?_ g2 (by rw [g3 83 (by decide)])
    have e : sw0 K q = wkQ K q := by unfold sw0; rw [if_pos (by omega)]
    rw [e]
    exact g1
  · refine go m ?_ (FmS.rf m) rfl
    have e : sw0 K q = q := by unfold sw0; rw [if_neg (by omega)]
    rw [e]
    exact hM
theorem M_sessions_27_c (hB : Bsh X.2.2.1) (hW : Wok K (wtB B)) (hdg : 0 ≤ dg ∧ dg ≤ 9) {x y : Int} (hx : x ≤ 20) : ∀ (f : Nat) (m : Mm) (l4 : Int) (q : Int → Int) (s : Int) (AL : List (Int → Int)), Mv X m K pf → m 100 = B → m 83 33 = dg → m 83 37 = s → Qok K q → (0 ≤ q 24 ∧ q 24 ≤ 60) → MR m q AL → 0 ≤ l4 → x - l4 = f → (∀ m', MR m' (snS K (wtB B) pf dg f q s AL).1 (snS K (wtB B) pf dg f q s AL).2 → FmD m m' → Q ((snS K (wtB B) pf dg f q s AL).1 22) m') → M_sessions_27 X (d + 10) x y l4 m Q := by
  intro f
  induction f with
  | zero =>
    intro m l4 q s AL hv h100 h33 h37 hQ h24 hM hl hf h
    refine M_sessions_27w hB ⟨by omega, by omega, fun _ => ?_, fun z => by omega⟩
    rw [hM.1]
    exact h m hM (FmD.rf m)
  | succ f ih =>
    intro m l4 q s AL hv h100 h33 h37 hQ h24 hM hl hf h
    refine M_sessions_27w hB ⟨by omega, by omega, fun z => by omega, fun _ => M_keep_c hB hM (fun m1 g1 g2 => ?_)⟩
    have e33 : m1 83 33 = dg := (g2.1 33 (by unfold scF; omega) (by decide)).trans h33
    have e37 : m1 83 37 = s := (g2.1 37 (by unfold scF; omega) (by decide)).trans h37
    have e100 : m1 100 = B := by rw [g2.2 100 (by decide)]; exact h100
    have ok := ss_ok (wt := wtB B) (pf := pf) (dg := dg) hv.2.2.1 hQ h24 s
    refine M_drawSession_c hB hW hdg (hv.fms g2) e100 e33 hQ h24 g1 (fun m2 k1 k2 k3 => ?_)
    rw [e37] at k1 k2
    have f2 : FmD m m2 := g2.d.tr k3
    exact ih m2 (l4 + 1) _ _ (kpL AL q) (hv.fmd f2) (by rw [f2.2 100 (by decide)]; exact h100) ((f2.1 33 (by unfold scF; omega) (by decide) (by decide)).trans h33) k2 ok.1 ok.2.2 k1 (by omega) (by omega) (fun m' w1 w2 => h m' w1 (f2.tr w2))
theorem CW.std {q' : Int → Int} {AL' : List (Int → Int)} {r : Int} (h : CW X m A t) (hf : FcD m m') (hC : CR m' (abK A) (abB A) q' AL' r) (hr : 0 ≤ r) (hl : m' 17 10 ≤ 400 * (t + 1)) : CW X m' (setQ A q' AL' (abI A)) (t + 1) := by
  obtain ⟨a1, ⟨c, c2, b1, b2, b3, b4, b5, b6, b7, b8⟩, a3, a4, a5, a6, a7, a8, a9⟩ := h
  obtain ⟨f1, f2, f3, f0, f4⟩ := hf
  have f : ∀ a, 1 ≤ a → a < 17 → m' a = m a := fun a h1 ha => f4 a (Or.inl ⟨h1, ha⟩)
  unfold CW
  rw [f 1 (by omega) (by omega), f 2 (by omega) (by omega), f0 6 (by decide), f0 7 (by decide), f0 14 (by decide), f1, f4 82 (by omega), f4 73 (by omega), f4 77 (by omega), f4 78 (by omega), f4 79 (by omega)]
  exact ⟨a1, ⟨c, c2, b1, b2, b3, b4, b5, b6, b7.fr (f _ (by omega) (by omega)) (f _ (by omega) (by omega)) (f _ (by omega) (by omega)), fun j h1 h2 => by rw [f (c + 3) (by omega) (by omega)]; exact b8 j h1 h2⟩, a3.cg (f0 4 (by decide)) (f0 5 (by decide)) f2 (f 8 (by omega) (by omega)) (fun a ha => f4 a (by omega)), hC.weak hr hr, a5.cg f3 (f4 _ (by omega)) (f4 _ (by omega)), hl, a7, a8, a9⟩
theorem MW.std {q' : Int → Int} {AL' : List (Int → Int)} (h : MW m A) (hf : FmD m m') (hR : MR m' q' AL') : MW m' (setQ A q' AL' (abI A)) := by
  obtain ⟨a1, a2, a3, a4, a5, a6, a7, a8, a9⟩ := h
  obtain ⟨s1, s2⟩ := hf
  have k : ∀ j, (j = 2 ∨ j = 13 ∨ j = 27 ∨ j = 28 ∨ j = 29 ∨ j = 32 ∨ j = 33 ∨ j = 48 ∨ j = 52) → m' 83 j = m 83 j := fun j hj => s1 j (by unfold scF; omega) (by omega) (by omega)
  unfold MW
  rw [k 2 (by omega), k 33 (by omega), k 48 (by omega), s2 84 (by decide), s2 100 (by decide), s2 102 (by decide), s2 107 (by decide), s2 108 (by decide), s2 109 (by decide)]
  refine ⟨a1, ?_, a3, a4.cg (k 13 (by omega)) (k 32 (by omega)) (fun a x y => s2 a (by simp; omega)), hR, ?_, a7, a8, a9⟩
  · unfold kM at a2 ⊢
    rw [k 27 (by omega), k 28 (by omega), k 29 (by omega), s2 98 (by decide), s2 99 (by decide)]
    exact a2
  · unfold MIm at a6 ⊢
    rw [k 52 (by omega), s2 112 (by decide)]
    exact a6
theorem op_sessions (hH : HLaw) (hB : Bsh X.2.2.1) (hI : InvA X m A t) (ht : t + 1 ≤ 1000) {x y : Int} (hx : R3 x) : ∃ A', AOk A' (t + 1) ∧ Bth X A' t (V_sessions X (d + 20) x y) (M_sessions X (d + 20) x y) m := by
  have hn := hI.n
  obtain ⟨c, c2, b1, b2, b3, b4, b5, b6, b7, b8⟩ := hI.1.2.1
  have h4 := b7.2.1
  have h24 : 0 ≤ abQ A 24 ∧ abQ A 24 ≤ 60 := hI.1.2.2.2.1.2.1.1.1
  have hdg : 0 ≤ abD A ∧ abD A ≤ 9 := hI.2.2.2.2.2.2.2.2.1
  by_cases c0 : kNm (abK A) = 0
  · refine ⟨A, hI.2.2.up ht, bth_of (F := -1) hI (fun Q h => ?_) (fun m1 Q h1 h => ?_)⟩
    · exact V_sessionsw hB (V_hasCanton_c hB b1 b4 (by omega) (fun _ => by omega) (fun _ => q0e (h m hI.1.up (fun _ _ => rfl))))
    · have e28 := h1.n
      exact M_sessionsw hB ⟨by omega, fun _ => h m1 h1 (fun _ _ => rfl), fun z => by omega⟩
  by_cases c1 : x < 1 ∨ 20 < x
  · refine ⟨A, hI.2.2.up ht, bth_of (F := -1) hI (fun Q h => ?_) (fun m1 Q h1 h => ?_)⟩
    · have h := h m hI.1.up (fun _ _ => rfl)
      exact V_sessionsw hB (V_hasCanton_c hB b1 b4 (by omega) (fun _ => q1e ⟨hx, fun _ => h, fun _ => ⟨fun _ => by omega, fun _ => h⟩⟩) (fun _ => by omega))
    · have e28 := h1.n
      exact M_sessionsw hB ⟨by omega, fun _ => by omega, fun z => M_in_c hx (by decide) (by decide) (fun _ _ => by omega) (fun _ => q0n (h m1 h1 (fun _ _ => rfl)))⟩
  have hqo := hI.q (by omega)
  have hK := hI.k (by omega)
  obtain ⟨q', hq'⟩ : ∃ q', q' = (snS (abK A) (wtB (abB A)) (abP A) (abD A) x.toNat (abQ A) y (abL A)).1 := ⟨_, rfl⟩
  obtain ⟨AL', hAL'⟩ : ∃ AL', AL' = (snS (abK A) (wtB (abB A)) (abP A) (abD A) x.toNat (abQ A) y (abL A)).2 := ⟨_, rfl⟩
  obtain ⟨w1, w2, w3⟩ := sn_ok (wt := wtB (abB A)) (pf := abP A) (dg := abD A) hK x.toNat (abQ A) y (abL A) hqo.1 h24
  rw [← hq'] at w1 w2
  rw [← hAL'] at w3
  have h0 := hqo.2
  refine ⟨setQ A q' AL' (abI A), hI.2.2.st ht (by omega) ⟨w1, by omega, by omega⟩ (fun a ha => ?_), bth_of (F := q' 22) hI (fun Q h => ?_) (fun m1 Q h1 h => ?_)⟩
  · rcases w3 a ha with e | e | ⟨e1, e2, e3⟩
    · exact Or.inl e
    · exact Or.inr (Or.inl e)
    · exact Or.inr (Or.inr ⟨e1, by omega, by omega⟩)
  · obtain ⟨c', hc'⟩ := hI.1.ci hH hB hI.2.2
    obtain ⟨v1, v2, v3, v4, v5⟩ := hc'.2.2.2.2.2 (by omega)
    refine V_sessionsw hB (V_hasCanton_c hB b1 b4 (by omega) (fun _ => q1e ⟨hx, fun _ => by omega, fun _ => ⟨fun _ => ?_, fun _ => by omega⟩⟩) (fun _ => by omega))
    have u1 : FcD m (up m 0 15 y) := FcD.up0
    have cr1 : CR (up m 0 15 y) (abK A) (abB A) (abQ A) (abL A) 0 := hI.1.2.2.2.1.cg (up_off (by decide)) (by rw [up_ne (Or.inl (by decide))]) (by rw [up_ne (Or.inl (by decide))]) (up_off (by decide)) (up_off (by decide)) (fun a h1 h2 => up_off (by omega))
    refine V_sessions_28_c hB v2 hdg (by omega) x.toNat _ 0 (abQ A) y (abL A) 0 (v1.fcd u1) ((u1.2.2.2.1 6 (by decide)).trans hc'.2.1) ((u1.2.2.2.1 14 (by decide)).trans hI.1.2.2.2.2.2.2.2.1) (up_same _ _ _ _) hqo.1 cr1 (by decide) (by decide) (by omega) (fun m' r g1 g2 g3 g4 => ?_)
    rw [← hq'] at g1 ⊢
    rw [← hAL'] at g1
    have e10 : up m 0 15 y 17 10 = m 17 10 := up_ne (Or.inl (by decide))
    have h10 := hI.1.2.2.2.2.2.1
    have f3 := u1.tr g3
    exact h m' (hI.1.std f3 g1 g2 (by omega)) (fun a ha => f3.2.2.2.2 a (by omega))
  · have e28 := h1.n
    have mi := h1.mi hH hB hI.2.2
    obtain ⟨v1, v2, v3⟩ := mi.2.2.2.2 (by omega)
    refine M_sessionsw hB ⟨by omega, fun _ => by omega, fun z => M_in_c hx (by decide) (by decide) (fun _ _ => q1n ?_) (fun _ => by omega)⟩
    have u1 : FmD m1 (up m1 83 37 y) := FmD.up37
    refine M_sessions_27_c hB v2.w hdg (by omega) x.toNat _ 0 (abQ A) y (abL A) (v1.fmd u1) (by rw [u1.2 100 (by decide)]; exact mi.2.1) ((u1.1 33 (by unfold scF; omega) (by decide) (by decide)).trans h1.2.2.2.2.2.2.2.1) (up_same _ _ _ _) hqo.1 h24 (h1.2.2.2.2.1.qq (by rw [up_off (by decide)]; exact h1.q) (up_ne (Or.inr (by decide))) (up_off (by decide))) (by decide) (by omega) (fun m' g1 g2 => ?_)
    rw [← hq'] at g1 ⊢
    rw [← hAL'] at g1
    have f3 := u1.tr g2
    exact h m' (h1.std f3 g1) (fun a ha => f3.2 a (by simp; omega))
end Sess2
