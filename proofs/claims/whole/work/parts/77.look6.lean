/-! ===== game and rests: the class; straw and fewest ===== -/
section Look6
variable {X : Cx} {d : Nat} {m : Mm} {Q : Int → Mm → Prop} {Q0 : Mm → Prop} {c : Nat} {K : Kn} {B q : Int → Int} {pf : Pf}
/-- a gain, read off the trial -/
theorem O_gainBy_c (hB : Bsh X.2.2.1) {s k own : Int} {E : Int → Int} (hs : 0 ≤ s ∧ s ≤ 2) (hw : nib (m 17 1) k = q k) (hwr : 0 ≤ q k ∧ q k ≤ 2) (ho : 0 ≤ own ∧ own ≤ 2) (hab : bit (m 69 4) k = 1 - bit (E 18) k) (h : Q (gnV s (q k) own (bit (E 18) k)) m) : O_gainBy X (d + 1) s k own m Q := by
  unfold gnV at h
  refine O_gainByw hB (T_leanOf_c hB (by decide) ?_)
  rw [hw]
  refine ⟨by omega, by omega, fun z1 => ⟨by omega, fun z2 => O_gainBy_26w hB (T_isAboard_c hB (by decide) (fun z3 => q0e ?_) (fun z3 => q1e ?_)), fun z2 => O_gainBy_26w hB (T_isAboard_c hB (by decide) (fun z3 => q0e ?_) (fun z3 => q1e ?_))⟩, fun z1 => ⟨by omega, fun z2 => O_gainBy_26w hB (T_isAboard_c hB (by decide) (fun z3 => q0e ?_) (fun z3 => q1e ?_)), fun z2 => O_gainBy_26w hB (T_isAboard_c hB (by decide) (fun z3 => q0e ?_) (fun z3 => q1e ?_))⟩⟩
  · rw [if_neg z1, if_pos z2, if_pos (by omega)] at h; exact h
  · rw [if_neg z1, if_pos z2, if_neg (by omega)] at h; exact h
  · rw [if_neg z1, if_neg z2, if_pos (by omega)] at h; exact h
  · rw [if_neg z1, if_neg z2, if_neg (by omega)] at h; exact h
  · rw [if_pos z1, if_pos z2, if_pos (by omega)] at h; exact h
  · rw [if_pos z1, if_pos z2, if_neg (by omega)] at h; exact h
  · rw [if_pos z1, if_neg z2, if_pos (by omega)] at h; exact h
  · rw [if_pos z1, if_neg z2, if_neg (by omega)] at h; exact h
/-- all games of two up to one -/
def gmTo (m : Mm) (K : Kn) (B : Int → Int) (pf : Pf) (q : Int → Int) (x y : Int) (k : Int) : Prop := ∀ i, 0 ≤ i → i < k → m 72 i = g0F K B pf q x y (i / 3) (i % 3) ∧ m 72 (i + 9) = g1F K B pf q x y (i / 3) (i % 3)
theorem O_playAll_3_c (hB : Bsh X.2.2.1) {m0 : Mm} {x y : Int} (hx : 0 ≤ x ∧ x < kNm K) (hy : 0 ≤ y ∧ y < kNm K) (hne : x ≠ y) : ∀ (f : Nat) (m : Mm) (l4 : Int) (o5 o6 o7 : Option Int), CI X m c K B pf q → 0 ≤ l4 → 9 - l4 = f → SmC m0 m → gmTo m K B pf q x y l4 → (∀ m', SmC m0 m' → gmTo m' K B pf q x y 9 → Q0 m') → O_playAll_3 X (d + 9) x y l4 o5 o6 o7 m Q0 := by
  intro f
  induction f with
  | zero =>
    intro m l4 o5 o6 o7 hI hl hf hs hg h
    have e : l4 = 9 := by omega
    rw [e] at hg
    exact O_playAll_3w hB ⟨by omega, fun _ => h m hs hg, fun z => by omega⟩
  | succ f ih =>
    intro m l4 o5 o6 o7 hI hl hf hs hg h
    obtain ⟨b1, b2, b3, b4, b5⟩ := hI.2.2.2.2.2 (by omega)
    have hK := b1.2.2.2.2.1
    have hn := hI.2.2.2.2.1
    have hd := d9 (k := l4) (by omega)
    refine O_playAll_3w hB ⟨by omega, fun z => by omega, fun _ => T_copy_c hB (by decide) (by decide) (by decide) (T_with_c (T_with_c ?_))⟩
    rw [hd.1, hd.2.1]
    obtain ⟨a, ha⟩ : ∃ a, a = l4 / 3 := ⟨_, rfl⟩
    obtain ⟨b, hb⟩ : ∃ b, b = l4 % 3 := ⟨_, rfl⟩
    rw [← ha, ← hb] at hd ⊢
    have e17 : cpS m 69 17 17 = m 17 := cp_fr m 69 17 17 (by decide)
    rw [e17]
    obtain ⟨m1, hm1⟩ : ∃ m1, m1 = up (cpS m 69 17) 69 1 (wth (wth (m 17 1) x a) y b) := ⟨_, rfl⟩
    rw [← hm1]
    have hc : Sc 69 m m1 := by
      rw [hm1]
      exact (cp_sc (o := 17) (Or.inl rfl)).tr ⟨by rw [up_ne (Or.inl (by decide))], by rw [up_ne (Or.inl (by decide))], (Fr.rf _ _).up (by simp)⟩
    have hS : Sr K (wtB B) (m1 69) (gnQ q x y a b) := by
      refine b4.lean hn.2 (fun k h1 h2 => ?_) (fun j h1 h2 h3 => ?_) (fun j hj => ?_)
      · rw [hm1, up_same, nibI (by omega) (by omega) (by omega), nibI (by omega) (by omega) (by omega)]
        unfold gnQ lnBy
        rw [(hI.rd h1 h2).2.1]
      · rw [hm1, up_ne (Or.inr h1)]
        unfold cpS
        rw [if_pos ⟨rfl, h2, by omega⟩]
      · unfold gnQ lnBy
        rw [if_neg (by omega), if_neg (by omega)]
    have hQ := gnQ_ok b3 hn.2 hx hy (a := a) (b := b) (by omega) (by omega)
    have hE := end_ok (wt := wtB B) (pf := pf) hK hQ
    refine S_sideAtEnd_c hB (b1.of (Or.inr (Or.inl rfl)) hc) (Or.inr (Or.inl rfl)) b2.w hS hQ (fun m2 g1 g2 g3 => ?_)
    have hc2 := hc.tr g3
    have e2 : m2 17 = m 17 := hc2.2.2 17 (by decide)
    have e72 : m2 72 = m 72 := hc2.2.2 72 (by decide)
    have hab : ∀ k, 0 ≤ k → k < kNm K → bit (m2 69 4) k = 1 - bit (endA K (wtB B) pf (gnQ q x y a b) 18) k := fun k h1 h2 => by rw [g1.2.1]; exact ab_bit hK.1 hE.2.1 ⟨h1, h2⟩
    have hsr := sideA_r K (endA K (wtB B) pf (gnQ q x y a b) 22)
    refine O_gainBy_c hB (E := endA K (wtB B) pf (gnQ q x y a b)) hsr (by rw [e2]; exact (hI.rd hx.1 hx.2).2.1) (b3.1 x hx.1 hx.2).1 (by omega) (hab x hx.1 hx.2) ⟨by omega, ?_⟩
    refine O_gainBy_c hB (E := endA K (wtB B) pf (gnQ q x y a b)) hsr (by rw [up_ne (Or.inl (by decide)), e2]; exact (hI.rd hy.1 hy.2).2.1) (b3.1 y hy.1 hy.2).1 (by omega) (by rw [up_ne (Or.inl (by decide))]; exact hab y hy.1 hy.2) ⟨by omega, ?_⟩
    have hs2 : SmC m (up (up m2 72 l4 (g0F K B pf q x y a b)) 72 (l4 + 9) (g1F K B pf q x y a b)) := (hc2.sm (Or.inl rfl)).tr (SmC.fr (((Fr.rf [72] _).up (by simp)).up (by simp)) (by decide))
    refine ih _ (l4 + 1) _ _ _ (hI.sm hs2) (by omega) (by omega) (hs.tr hs2) (fun i h1 h2 => ?_) h
    by_cases z : i = l4
    · rw [z, up_ne (Or.inr (by omega)), up_same, up_same, ← ha, ← hb]
      exact ⟨rfl, rfl⟩
    · have := hg i h1 (by omega)
      show up (up m2 72 l4 _) 72 (l4 + 9) _ 72 i = _ ∧ up (up m2 72 l4 _) 72 (l4 + 9) _ 72 (i + 9) = _
      rw [up_ne (Or.inr (by omega)), up_ne (Or.inr z), up_ne (Or.inr (by omega)), up_ne (Or.inr (by omega)), e72]
      exact this
theorem V_game_c (hB : Bsh X.2.2.1) (hI : CI X m c K B pf q) {x y z u v : Int} (hx : R3 x) (hy : R3 y) (hz : R3 z) (hu : R3 u) (hv : R3 v) (h : ∀ m', SmC m m' → Q (FGame K B pf q x y z u v) m') : V_game X (d + 12) x y z u v m Q := by
  have hn := hI.mem
  have h4 := hI.2.2.2.1
  have no : (x < 0 ∨ kNm K ≤ x ∨ y < 0 ∨ kNm K ≤ y ∨ x = y ∨ z < 0 ∨ 2 < z ∨ u < 0 ∨ 2 < u ∨ v < 0 ∨ 1 < v) → Q (-1000000) m := fun e => by
    have := h m (SmC.rf m)
    unfold FGame at this
    rw [if_pos e] at this
    exact this
  refine V_gamew hB (V_isMember_c hB hI.1 hI.2.1 hn hx (fun z1 z2 => q1e (V_isMember_c hB hI.1 hI.2.1 hn hy (fun z3 z4 => q1e ⟨hx, hy, fun z5 => ⟨hz, fun e => no (by omega), fun z6 => ⟨fun e => no (by omega), fun z7 => ⟨hu, fun e => no (by omega), fun z8 => ⟨fun e => no (by omega), fun z9 => ⟨hv, fun e => no (by omega), fun y1 => ⟨fun y2 => ?_, fun e => no (by omega)⟩⟩⟩⟩⟩⟩, fun e => no (by omega)⟩) (fun e => q0e (no (by omega))))) (fun e => q0e (no (by omega))))
  refine O_playAllw hB (O_playAll_3_c hB (by omega) (by omega) z5 9 m 0 none none none hI (by omega) (by omega) (SmC.rf m) (fun i h1 h2 => by omega) (fun m' hs hg => O_gainOfw hB ⟨by omega, ?_⟩))
  have := h m' hs
  unfold FGame at this
  rw [if_neg (by omega)] at this
  have hi := hg (3 * z + u) (by omega) (by omega)
  have e1 : (3 * z + u) / 3 = z := by omega
  have e2 : (3 * z + u) % 3 = u := by omega
  rw [e1, e2] at hi
  by_cases y3 : v = 0
  · rw [if_pos y3, ← hi.1] at this
    have e : 9 * v + 3 * z + u = 3 * z + u := by omega
    rw [e]
    exact this
  · rw [if_neg y3, ← hi.2] at this
    have e : 9 * v + 3 * z + u = 3 * z + u + 9 := by omega
    rw [e]
    exact this
theorem O_isRest_2_c (hB : Bsh X.2.2.1) {g0 g1 : Int → Int → Int} {z u : Int} (hg : ∀ a b, 0 ≤ a → a ≤ 2 → 0 ≤ b → b ≤ 2 → m 72 (9 * 0 + 3 * a + b) = g0 a b ∧ m 72 (9 * 1 + 3 * a + b) = g1 a b) (hr : ∀ a b, (-3 ≤ g0 a b ∧ g0 a b ≤ 6) ∧ (-3 ≤ g1 a b ∧ g1 a b ≤ 6)) (hz : 0 ≤ z ∧ z ≤ 2) (hu : 0 ≤ u ∧ u ≤ 2) : ∀ (f : Nat) (l3 : Int), 0 ≤ l3 → 3 - l3 = f → Q (if rsB g0 g1 z u f l3 then 1 else 0) m → O_isRest_2 X (d + 1) z u l3 m Q := by
  intro f
  induction f with
  | zero =>
    intro l3 hl hf h
    exact O_isRest_2w hB ⟨by omega, fun _ => h, fun e => by omega⟩
  | succ f ih =>
    intro l3 hl hf h
    have a1 := hg l3 u hl (by omega) hu.1 hu.2
    have a2 := hg z u hz.1 hz.2 hu.1 hu.2
    have a3 := hg z l3 hz.1 hz.2 hl (by omega)
    have r1 := hr l3 u
    have r2 := hr z u
    have r3 := hr z l3
    unfold rsB at h
    refine O_isRest_2w hB ⟨by omega, fun e => by omega, fun _ => O_gainOfw hB ⟨by omega, O_gainOfw hB ⟨by omega, ?_⟩⟩⟩
    rw [a1.1, a2.1]
    refine ⟨by omega, by omega, fun e => ?_, fun e => O_gainOfw hB ⟨by omega, O_gainOfw hB ⟨by omega, ?_⟩⟩⟩
    · rw [if_pos e] at h
      exact h
    · rw [if_neg (Int.not_lt.mpr e)] at h
      rw [a3.2, a2.2]
      refine ⟨by omega, by omega, fun e2 => ?_, fun e2 => ?_⟩
      · rw [if_neg (Int.not_lt.mpr e2)] at h
        exact ih (l3 + 1) (by omega) (by omega) h
      · rw [if_pos e2] at h
        exact h
theorem O_listRests_17_c (hB : Bsh X.2.2.1) {m0 : Mm} {g0 g1 : Int → Int → Int} (hg : ∀ a b, 0 ≤ a → a ≤ 2 → 0 ≤ b → b ≤ 2 → m0 72 (9 * 0 + 3 * a + b) = g0 a b ∧ m0 72 (9 * 1 + 3 * a + b) = g1 a b) (hr : ∀ a b, (-3 ≤ g0 a b ∧ g0 a b ≤ 6) ∧ (-3 ≤ g1 a b ∧ g1 a b ≤ 6)) : ∀ (f : Nat) (m : Mm) (l1 l2 : Int) (L : List Int), 0 ≤ l1 → (0 ≤ l2 ∧ l2 ≤ 3) → 9 - (3 * l1 + l2) = f → Fr [67, 68] m0 m → FdL m 67 L → (L.length : Int) ≤ 3 * l1 + l2 → (∀ m', Fr [67, 68] m0 m' → FdL m' 67 (L ++ flG (fun k => rsB g0 g1 (k / 3) (k % 3) 3 0) (fun k => 10 * (k / 3) + k % 3) f (3 * l1 + l2)) → Q0 m') → (l1 < 3 → O_listRests_17 X (d + 2) l1 l2 m Q0) ∧ (∀ o, l2 = 0 → O_listRests_10 X (d + 2) l1 o m Q0) := by
  intro f
  induction f with
  | zero =>
    intro m l1 l2 L h1 h2 hf hs hL hl h
    have hend : ∀ l o, 3 ≤ l → l ≤ 1000 → O_listRests_10 X (d + 2) l o m Q0 := fun l o hl' hl2 => O_listRests_10w hB ⟨by omega, fun _ => h m hs (by unfold flG; rw [List.append_nil]; exact hL), fun e => by omega⟩
    refine ⟨fun z => O_listRests_17w hB ⟨by omega, fun _ => hend _ _ (by omega) (by omega), fun e => by omega⟩, fun o z => hend _ _ (by omega) (by omega)⟩
  | succ f ih =>
    intro m l1 l2 L h1 h2 hf hs hL hl h
    have hin : ∀ l1 l2 : Int, 0 ≤ l1 → l1 < 3 → 0 ≤ l2 → l2 < 3 → 9 - (3 * l1 + l2) = ((f + 1 : Nat) : Int) → (L.length : Int) ≤ 3 * l1 + l2 → (∀ m', Fr [67, 68] m0 m' → FdL m' 67 (L ++ flG (fun k => rsB g0 g1 (k / 3) (k % 3) 3 0) (fun k => 10 * (k / 3) + k % 3) (f + 1) (3 * l1 + l2)) → Q0 m') → O_listRests_17 X (d + 2) l1 l2 m Q0 := by
      intro l1 l2 h1 h1' h2 h2' hf hl h
      have e72 : m 72 = m0 72 := hs 72 (by decide)
      have e1 : (3 * l1 + l2) / 3 = l1 := by omega
      have e2 : (3 * l1 + l2) % 3 = l2 := by omega
      have e3 : 3 * l1 + l2 + 1 = 3 * l1 + (l2 + 1) := by omega
      unfold flG at h
      rw [e1, e2, e3] at h
      refine O_listRests_17w hB ⟨by omega, fun e => by omega, fun _ => O_isRestw hB (O_isRest_2_c hB (g0 := g0) (g1 := g1) (fun a b q1 q2 q3 q4 => by rw [e72]; exact hg a b q1 q2 q3 q4) hr (by omega) (by omega) 3 0 (by omega) (by omega) ?_)⟩
      cases hb : rsB g0 g1 l1 l2 3 0 with
      | false =>
        simp only [hb] at h
        exact q0e ((ih m l1 (l2 + 1) L h1 (by omega) (by omega) hs hL (by omega) h).1 h1')
      | true =>
        simp only [hb, if_true] at h
        refine q1e (F_add_c hB (Or.inl rfl) hL (by show L.length < 64; omega) (fun m' g1 g2 => (ih m' l1 (l2 + 1) (L ++ [10 * l1 + l2]) h1 (by omega) (by omega) (hs.tr g2) g1 (by simp; omega) (fun m'' g3 g4 => h m'' g3 (by rw [List.append_assoc] at g4; exact g4))).1 h1'))
    refine ⟨fun z => ?_, fun o z => ?_⟩
    · by_cases z2 : l2 < 3
      · exact hin l1 l2 h1 z h2.1 z2 hf hl h
      · have e : 3 * l1 + l2 = 3 * (l1 + 1) + 0 := by omega
        rw [e] at h hf hl
        exact O_listRests_17w hB ⟨by omega, fun _ => O_listRests_10w hB ⟨by omega, fun e2 => by omega, fun e2 => hin (l1 + 1) 0 (by omega) e2 (by omega) (by omega) hf hl h⟩, fun e2 => by omega⟩
    · subst z
      exact O_listRests_10w hB ⟨by omega, fun e2 => by omega, fun e2 => hin l1 0 h1 e2 (by omega) (by omega) hf hl h⟩
theorem V_rests_c (hB : Bsh X.2.2.1) (hI : CI X m c K B pf q) {x y z : Int} (hx : R3 x) (hy : R3 y) (hz : R3 z) (h : ∀ m', SmC m m' → Q (FRests K B pf q x y z) m') : V_rests X (d + 13) x y z m Q := by
  have hn := hI.mem
  have h4 := hI.2.2.2.1
  have no : (x < 0 ∨ kNm K ≤ x ∨ y < 0 ∨ kNm K ≤ y ∨ x = y) → Q (-1) m := fun e => by
    have := h m (SmC.rf m)
    unfold FRests at this
    rw [if_pos e] at this
    exact this
  refine V_restsw hB (V_isMember_c hB hI.1 hI.2.1 hn hx (fun z1 z2 => q1e (V_isMember_c hB hI.1 hI.2.1 hn hy (fun z3 z4 => q1e ⟨hx, hy, fun z5 => ?_, fun e => no (by omega)⟩) (fun e => q0e (no (by omega))))) (fun e => q0e (no (by omega))))
  refine O_playAllw hB (O_playAll_3_c hB (by omega) (by omega) z5 9 m 0 none none none hI (by omega) (by omega) (SmC.rf m) (fun i h1 h2 => by omega) (fun m1 hs hg => O_listRestsw hB ?_))
  have hs2 : Fr [67, 68] m1 (up m1 67 1 0) := (Fr.rf _ _).up (by simp)
  refine (O_listRests_17_c hB (m0 := up m1 67 1 0) (g0 := g0F K B pf q x y) (g1 := g1F K B pf q x y) (fun a b q1 q2 q3 q4 => ?_) (fun a b => ⟨gnV_r _ _ _ _, gnV_r _ _ _ _⟩) 9 _ 0 0 [] (by omega) (by omega) (by omega) (Fr.rf _ _) ⟨up_same _ _ _ _, fun j hj => by simp at hj⟩ (by simp) (fun m2 g1 g2 => ?_)).2 none rfl
  · have hi := hg (3 * a + b) (by omega) (by omega)
    have e1 : (3 * a + b) / 3 = a := by omega
    have e2 : (3 * a + b) % 3 = b := by omega
    rw [e1, e2] at hi
    have e3 : (9 * 0 + 3 * a + b : Int) = 3 * a + b := by omega
    have e4 : (9 * 1 + 3 * a + b : Int) = 3 * a + b + 9 := by omega
    rw [e3, e4, up_ne (Or.inl (by decide)), up_ne (Or.inl (by decide))]
    exact hi
  · rw [List.nil_append] at g2
    have hl := flG_len (fun k => rsB (g0F K B pf q x y) (g1F K B pf q x y) (k / 3) (k % 3) 3 0) (fun k => 10 * (k / 3) + k % 3) 9 (3 * 0 + 0)
    refine F_pick_c hB (Or.inl rfl) g2 (Nat.le_trans hl (by decide)) hz ?_
    have := h m2 (hs.tr (SmC.fr (hs2.tr g1) (by decide)))
    unfold FRests at this
    rw [if_neg (by omega)] at this
    exact this
end Look6
