/-! ===== tracks: the class's list ===== -/
def bW (B : Int → Int) (w x : Int) : Int → Int := fun j => if (0 ≤ w ∧ w < 6) ∧ j = 4 * w then min (B (4 * w) + x) 9 else B j
theorem bW9 (B : Int → Int) (x : Int) : bW B 9 x = B := by
  funext j
  unfold bW
  rw [if_neg (by omega)]
def tkW (K : Kn) (B p : Int → Int) (pf : Pf) (x w r : Int) : Int := tkC K (wtB (bW B w x)) pf (bgQ K B p) r
def cdW (n l : Int) : Int := if l < n then l else 9
def clL (so : Int → Bool) (n : Int) : Nat → Int → List Int
  | 0, _ => []
  | f + 1, l => (if so (cdW n l) = true then [cdW n l] else []) ++ clL so n f (l + 1)
theorem clL_len (so : Int → Bool) (n : Int) : ∀ (f : Nat) (l : Int), (clL so n f l).length ≤ f
  | 0, _ => Nat.le_refl _
  | f + 1, l => by
    have := clL_len so n f (l + 1)
    show ((if so (cdW n l) = true then [cdW n l] else []) ++ clL so n f (l + 1)).length ≤ f + 1
    rw [List.length_append]
    split
    · rw [List.length_singleton]; omega
    · rw [List.length_nil]; omega
theorem bW_ok {K : Kn} {B : Int → Int} {w x : Int} (hn : kNm K ≤ 6) (hB : Bok K B) (hx : 1 ≤ x ∧ x ≤ 5) : Wok K (wtB (bW B w x)) := by
  intro k h1 h2
  have hb := hB k h1 h2
  show 1 ≤ bW B w x (4 * k) ∧ bW B w x (4 * k) ≤ 9
  unfold bW
  split
  next e =>
    have : k = w := by omega
    rw [← this]
    omega
  next => omega
theorem bg21 {K : Kn} {B p : Int → Int} (hn : kNm K ≤ 6) : bgQ K B p 21 = 0 := by
  unfold bgQ bgL
  rw [if_neg (by omega), if_neg (by omega), if_neg (by omega), if_neg (by omega), if_neg (by omega), if_pos (by omega)]
theorem tkW_r {K : Kn} {B p : Int → Int} {pf : Pf} {x w r : Int} (hK : Kok K) (hB : Bok K B) (hr : 0 ≤ r ∧ r ≤ kR K 3) : 0 ≤ tkW K B p pf x w r ∧ tkW K B p pf x w r < kR K 0 := tkC_r hK (bgQ_ok hK hB) (bg21 hK.1.2) hr
section Track2
variable {X : Cx} {d : Nat} {Q : Int → Mm → Prop} {Q0 : Mm → Prop} {c : Nat} {K : Kn} {pf : Pf} {B p nr nc ni : Int → Int} {N x : Int}
/-- what was noted, of a candidate -/
def soW (K : Kn) (B p : Int → Int) (pf : Pf) (x : Int) (N : Int) (nr nc ni : Int → Int) (w : Int) : Bool := fitF (kR K 3) (tkW K B p pf x w) nr nc ni N.toNat 0
theorem U_list_90_c (hB : Bsh X.2.2.1) {m : Mm} (hBk : Bok K B) (hx : 1 ≤ x ∧ x ≤ 5) (hN : 0 ≤ N ∧ N ≤ 10) (hv : Cv X m c K pf) (h73 : m 73 0 = N) (hnt : ∀ j, 0 ≤ j → j < N → m 77 j = nr j ∧ m 78 j = nc j ∧ m 79 j = ni j) (hok : ∀ j, 0 ≤ j → j < N → (1 ≤ nr j ∧ nr j ≤ 20) ∧ (0 ≤ nc j ∧ nc j < 100) ∧ (ni j = 0 ∨ ni j = 1)) {l3 : Int} {o4 : Option Int} {L : List Int} (hl : 0 ≤ l3 ∧ l3 ≤ kNm K) (hS : Sr K (wtB (bW B (cdW (kNm K) l3) x)) (m 76) (bgQ K B p)) (hL : FdL m 74 L) (hLl : (L.length : Int) ≤ l3) (h81 : ∀ r k, 1 ≤ r → r ≤ kR K 3 → 0 ≤ k → k < 9 → m 81 (9 * r + k) = cntL (tkW K B p pf x) r k L) (h : ∀ m' L', L' = L ++ (if soW K B p pf x N nr nc ni (cdW (kNm K) l3) = true then [cdW (kNm K) l3] else []) → FdL m' 74 L' → (∀ r k, 1 ≤ r → r ≤ kR K 3 → 0 ≤ k → k < 9 → m' 81 (9 * r + k) = cntL (tkW K B p pf x) r k L') → SmC m m' → U_listFitting_29 X (d + 9) x (kNm K) (l3 + 1) o4 m' Q0) : U_listFitting_90 X (d + 9) x (kNm K) l3 o4 m Q0 := by
  have hK := hv.2.2.2.2.1
  have hn := hK.1
  have hk3 := hK.2.2.2.2.2.1
  have hk0 := hK.2.2.1
  have hQ := bgQ_ok (p := p) hK hBk
  have hW : Wok K (wtB (bW B (cdW (kNm K) l3) x)) := bW_ok hn.2 hBk hx
  refine U_listFitting_90w hB (U_goDownw hB (U_goDown_2_c hB hW hQ (bg21 hn.2) (kR K 3).toNat m 1 hv hS (by omega) (by omega) (fun r h1 h2 => by omega) (fun m1 g1 g2 g3 => U_fitsw hB ?_)))
  have e73 : m1 73 = m 73 := g2.r8 73 (by omega)
  have e77 : m1 77 = m 77 := g2.r8 77 (by omega)
  have e78 : m1 78 = m 78 := g2.r8 78 (by omega)
  have e79 : m1 79 = m 79 := g2.r8 79 (by omega)
  have hv1 := hv.smc g2
  have e74 : m1 74 = m 74 := g3 74 (by decide)
  have e75 : m1 75 = m 75 := g3 75 (by decide)
  have e81 : m1 81 = m 81 := g3 81 (by decide)
  have hL1 : FdL m1 74 L := ⟨by rw [e74]; exact hL.1, fun j hj => by show m1 75 j = _; rw [e75]; exact hL.2 j hj⟩
  have hcolr : ∀ r, 1 ≤ r → r ≤ kR K 3 → 0 ≤ tkW K B p pf x (cdW (kNm K) l3) r ∧ tkW K B p pf x (cdW (kNm K) l3) r < 9 := fun r h1 h2 => by
    have := tkW_r (p := p) (pf := pf) (x := x) (w := cdW (kNm K) l3) hK hBk (r := r) (by omega)
    omega
  refine U_fits_2_c (col := tkW K B p pf x (cdW (kNm K) l3)) hB hv1 hN (by rw [e73]; exact h73) (by rw [e77, e78, e79]; exact hnt) hok (fun r h1 h2 => ⟨g1 r h1 h2, (hcolr r h1 h2).1, by have := hcolr r h1 h2; omega⟩) N.toNat 0 none (by omega) (by omega) (fun w => q1e ?_) (fun w => q0e ?_)
  · have hadd : ∀ v, v = cdW (kNm K) l3 → F_add X (d + 8) 74 v m1 (fun m116 => U_countColumns X (d + 8) m116 (fun m120 => U_listFitting_29 X (d + 9) x (kNm K) (l3 + 1) o4 m120 Q0)) := by
      intro v ev
      refine F_add_c hB (Or.inr rfl) hL1 (by show L.length < 7; omega) (fun m2 k1 k2 => U_countColumnsw hB ?_)
      have hs2 : SmC m1 m2 := SmC.fr k2 (by decide)
      refine U_count_2_c hB (col := tkW K B p pf x (cdW (kNm K) l3)) (m0 := m2) (kR K 3).toNat m2 1 (hv1.smc hs2) (by omega) (by omega) (fun r h1 h2 => ⟨by rw [k2 80 (by decide)]; exact g1 r h1 h2, hcolr r h1 h2⟩) (fun r k r1 r2 k1 k2 => by rw [if_neg (by omega)]; omega) (fun m3 j1 j2 => ?_)
      have hs3 : SmC m2 m3 := SmC.fr j2 (by decide)
      have eL : L ++ (if soW K B p pf x N nr nc ni (cdW (kNm K) l3) = true then [cdW (kNm K) l3] else []) = L ++ [cdW (kNm K) l3] := by rw [if_pos (c := soW K B p pf x N nr nc ni (cdW (kNm K) l3) = true) w]
      refine h m3 (L ++ [cdW (kNm K) l3]) eL.symm ⟨by rw [j2 74 (by decide), ← ev]; exact k1.1, fun j hj => by show m3 75 j = _; rw [j2 75 (by decide), ← ev]; exact k1.2 j (by rw [ev]; exact hj)⟩ (fun r k r1 r2 w1 w2 => ?_) ((g2.tr hs2).tr hs3)
      rw [j1 r k r1 r2 w1 w2, k2 81 (by decide), e81, h81 r k r1 r2 w1 w2, cntL_ap]
    refine ⟨by omega, by omega, fun z => hadd 9 ?_, fun z => hadd l3 ?_⟩
    · unfold cdW; rw [if_neg (by omega)]
    · unfold cdW; rw [if_pos z]
  · have eL : L ++ (if soW K B p pf x N nr nc ni (cdW (kNm K) l3) = true then [cdW (kNm K) l3] else []) = L := by
      rw [if_neg (by intro e; rw [show soW K B p pf x N nr nc ni (cdW (kNm K) l3) = false from w] at e; cases e), List.append_nil]
    exact h m1 L eL.symm hL1 (by rw [e81]; exact h81) g2
theorem U_list_29_c (hB : Bsh X.2.2.1) (hBk : Bok K B) (hx : 1 ≤ x ∧ x ≤ 5) (hN : 0 ≤ N ∧ N ≤ 10) (hok : ∀ j, 0 ≤ j → j < N → (1 ≤ nr j ∧ nr j ≤ 20) ∧ (0 ≤ nc j ∧ nc j < 100) ∧ (ni j = 0 ∨ ni j = 1)) : ∀ (f : Nat) (m : Mm) (l3 : Int) (o4 : Option Int) (L : List Int), Cv X m c K pf → (∀ j, 0 ≤ j → j < 4 * kNm K → m (c + 3) j = B j) → m 73 0 = N → (∀ j, 0 ≤ j → j < N → m 77 j = nr j ∧ m 78 j = nc j ∧ m 79 j = ni j) → 0 ≤ l3 → kNm K + 1 - l3 = f → FdL m 74 L → (L.length : Int) ≤ l3 → (∀ r k, 1 ≤ r → r ≤ kR K 3 → 0 ≤ k → k < 9 → m 81 (9 * r + k) = cntL (tkW K B p pf x) r k L) → (∀ m' L', L' = L ++ clL (soW K B p pf x N nr nc ni) (kNm K) f l3 → FdL m' 74 L' → (∀ r k, 1 ≤ r → r ≤ kR K 3 → 0 ≤ k → k < 9 → m' 81 (9 * r + k) = cntL (tkW K B p pf x) r k L') → SmC m m' → Q0 m') → U_listFitting_29 X (d + 9) x (kNm K) l3 o4 m Q0 := by
  intro f
  induction f with
  | zero =>
    intro m l3 o4 L hv hb h73 hnt hl hf hL hLl h81 h
    have hn := hv.2.2.2.2.1.1
    exact U_listFitting_29w hB ⟨by omega, by omega, fun _ => h m L (by rw [show clL (soW K B p pf x N nr nc ni) (kNm K) 0 l3 = [] from rfl, List.append_nil]) hL h81 (SmC.rf m), fun z => by omega⟩
  | succ f ih =>
    intro m l3 o4 L hv hb h73 hnt hl hf hL hLl h81 h
    have hK := hv.2.2.2.2.1
    have hn := hK.1
    have next : ∀ (m1 : Mm) (o : Option Int), SmC m m1 → FdL m1 74 L → m1 81 = m 81 → Sr K (wtB (bW B (cdW (kNm K) l3) x)) (m1 76) (bgQ K B p) → U_listFitting_90 X (d + 9) x (kNm K) l3 o m1 Q0 := by
      intro m1 o g1 g2 g3 g4
      refine U_list_90_c hB hBk hx hN (hv.smc g1) (by rw [g1.r8 73 (by omega)]; exact h73) (by rw [g1.r8 77 (by omega), g1.r8 78 (by omega), g1.r8 79 (by omega)]; exact hnt) hok (by omega) g4 g2 hLl (by rw [g3]; exact h81) (fun m2 L2 k1 k2 k3 k4 => ?_)
      have hs := g1.tr k4
      have hl2 : (L2.length : Int) ≤ l3 + 1 := by
        rw [k1, List.length_append]
        split
        · rw [List.length_singleton]; omega
        · rw [List.length_nil]; omega
      refine ih m2 (l3 + 1) o L2 (hv.smc hs) (by rw [hs.2.2 (c + 3) (by have := hv.1; simp; omega)]; exact hb) (by rw [hs.r8 73 (by omega)]; exact h73) (by rw [hs.r8 77 (by omega), hs.r8 78 (by omega), hs.r8 79 (by omega)]; exact hnt) (by omega) (by omega) k2 hl2 k3 (fun m' L' j1 j2 j3 j4 => h m' L' ?_ j2 j3 (hs.tr j4))
      rw [j1, k1, List.append_assoc]
      rfl
    refine U_listFitting_29w hB ⟨by omega, by omega, fun z => by omega, fun _ => ⟨c, hv.1, hv.2.1, T_begin_c hB hv.1 (by decide) (by omega) hBk hv.2.2.1 hb (p := p) (fun m1 g1 g2 g3 => ⟨fun z => ?_, fun z => T_weightOf_c hB (by decide) ?_⟩)⟩⟩
    · have hs : SmC m m1 := SmC.fr g3 (by decide)
      refine next m1 o4 hs ⟨by rw [g3 74 (by decide)]; exact hL.1, fun j hj => by show m1 75 j = _; rw [g3 75 (by decide)]; exact hL.2 j hj⟩ (g3 81 (by decide)) ?_
      have e : cdW (kNm K) l3 = 9 := by unfold cdW; rw [if_neg (by omega)]
      rw [e, bW9]
      exact g1
    · have ew : nib (m1 76 0) l3 = B (4 * l3) := (g1.1 l3 hl z).1
      have hbb := hBk l3 hl z
      rw [ew]
      refine ⟨by omega, T_with_c ?_⟩
      have hfr : Fr [76] m (up m1 76 0 (wth (m1 76 0) l3 (min (B (4 * l3) + x) 9))) := g3.up (by simp)
      refine next _ _ (SmC.fr hfr (by decide)) ⟨by rw [hfr 74 (by decide)]; exact hL.1, fun j hj => by rw [hfr (74 + 1) (by decide)]; exact hL.2 j hj⟩ (hfr 81 (by decide)) ?_
      have e : cdW (kNm K) l3 = l3 := by unfold cdW; rw [if_pos z]
      rw [e]
      obtain ⟨a1, a2, a3, a4, a5, a6, a7⟩ := g1
      have o : ∀ j, j ≠ 0 → up m1 76 0 (wth (m1 76 0) l3 (min (B (4 * l3) + x) 9)) 76 j = m1 76 j := fun j hj => up_ne (Or.inr hj)
      unfold Sr
      rw [o 1 (by decide), o 2 (by decide), o 3 (by decide), o 4 (by decide), o 5 (by decide), o 6 (by decide), o 7 (by decide), o 8 (by decide), o 9 (by decide), up_same]
      refine ⟨fun k h1 h2 => ⟨?_, (a1 k h1 h2).2⟩, a2, a3, a4, a5, a6, a7⟩
      rw [nibI (by omega) (by omega) (by omega), (a1 k h1 h2).1]
      show _ = bW B l3 x (4 * k)
      unfold bW
      by_cases z2 : k = l3
      · rw [if_pos z2, if_pos (by omega)]
      · rw [if_neg z2, if_neg (by omega)]
theorem A_fill81_c (hB : Bsh X.2.2.1) : ∀ (f : Nat) (m : Mm) (l2 : Int), 0 ≤ l2 → 189 - l2 = f → (∀ m', (∀ j, l2 ≤ j → j < 189 → m' 81 j = 0) → (∀ j, j < l2 → m' 81 j = m 81 j) → Fr [81] m m' → Q0 m') → A_fill_5 X d 81 0 l2 189 m Q0 := by
  intro f
  induction f with
  | zero =>
    intro m l2 hl hf h
    exact A_fill_5w hB (by decide) ⟨by omega, by omega, fun _ => h m (fun j h1 h2 => by omega) (fun _ _ => rfl) (Fr.rf _ _), fun z => by omega⟩
  | succ f ih =>
    intro m l2 hl hf h
    refine A_fill_5w hB (by decide) ⟨by omega, by omega, fun z => by omega, fun _ => ⟨⟨hl, by show l2 < 189; omega⟩, ih _ (l2 + 1) (by omega) (by omega) (fun m' w1 w2 w3 => h m' (fun j h1 h2 => ?_) (fun j hj => ?_) (((Fr.rf _ _).up (by simp)).tr w3))⟩⟩
    · by_cases z : j = l2
      · rw [w2 j (by omega), up_at, if_pos z]
      · exact w1 j (by omega) h2
    · rw [w2 j (by omega), up_at, if_neg (by omega)]
theorem U_list_c (hB : Bsh X.2.2.1) {m : Mm} (hBk : Bok K B) (hx : 1 ≤ x ∧ x ≤ 5) (hN : 0 ≤ N ∧ N ≤ 10) (hok : ∀ j, 0 ≤ j → j < N → (1 ≤ nr j ∧ nr j ≤ 20) ∧ (0 ≤ nc j ∧ nc j < 100) ∧ (ni j = 0 ∨ ni j = 1)) (hv : Cv X m c K pf) (hb : ∀ j, 0 ≤ j → j < 4 * kNm K → m (c + 3) j = B j) (h73 : m 73 0 = N) (hnt : ∀ j, 0 ≤ j → j < N → m 77 j = nr j ∧ m 78 j = nc j ∧ m 79 j = ni j) (h : ∀ m' L', L' = clL (soW K B p pf x N nr nc ni) (kNm K) (kNm K + 1).toNat 0 → FdL m' 74 L' → (∀ r k, 1 ≤ r → r ≤ kR K 3 → 0 ≤ k → k < 9 → m' 81 (9 * r + k) = cntL (tkW K B p pf x) r k L') → SmC m m' → Q0 m') : U_listFitting X (d + 9) x m Q0 := by
  have hK := hv.2.2.2.2.1
  have hn := hK.1
  have hk3 := hK.2.2.2.2.2.1
  refine U_listFittingw hB (A_fillw hB (by decide) (A_fill81_c hB 189 _ 0 (by decide) (by decide) (fun m1 w1 w2 w3 => ?_)))
  have hfr : Fr [74, 81] m m1 := ((Fr.rf _ _).up (by simp)).tr (w3.wd (by decide))
  have hs : SmC m m1 := SmC.fr hfr (by decide)
  have hv1 := hv.smc hs
  have e4 : m1 c 4 = kNm K := hv1.2.2.1.2.1
  refine ⟨c, hv.1, hv1.2.1, ?_⟩
  rw [e4]
  refine U_list_29_c (p := p) hB hBk hx hN hok (kNm K + 1).toNat m1 0 none [] hv1 (by rw [hfr (c + 3) (by have := hv.1; simp; omega)]; exact hb) (by rw [hs.r8 73 (by omega)]; exact h73) (by rw [hs.r8 77 (by omega), hs.r8 78 (by omega), hs.r8 79 (by omega)]; exact hnt) (by decide) (by omega) ⟨by rw [w3 74 (by decide), up_same]; rfl, fun j hj => absurd hj (by simp)⟩ (by decide) (fun r k r1 r2 k1 k2 => by rw [w1 _ (by omega) (by omega)]; rfl) (fun m' L' j1 j2 j3 j4 => h m' L' j1 j2 j3 (hs.tr j4))
end Track2
