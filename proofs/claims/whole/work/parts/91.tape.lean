/-! ===== back, law, end, seen, feed ===== -/
abbrev setT (A : Ab) (s : Int) (T : Int → Int) : Ab := ((s, T), A.2)
abbrev setN (A : Ab) (n : Int) (a b c : Int → Int) : Ab := (A.1, A.2.1, A.2.2.1, A.2.2.2.1, (n, a, b, c), A.2.2.2.2.2)
abbrev setH (A : Ab) (W : List Lw) (h : Int) : Ab := (A.1, A.2.1, A.2.2.1, A.2.2.2.1, A.2.2.2.2.1, (W, h))
def byt (x s : Int) : Int := iA (iSr x s) 255
def bR (x : Int) : Nat → List Int
  | 0 => []
  | n + 1 => byt x (8 * n) :: bR x n
def cB : List Int → Int
  | [] => 0
  | b :: L => (if b = 0 then 0 else 1) + cB L
def apB : List Int → Int → (Int → Int) → Int × (Int → Int)
  | [], s, T => (s, T)
  | b :: L, s, T => if b = 0 then apB L s T else apB L (s + 1) (fun j => if j = s then b else T j)
theorem byt_r (x s : Int) : 0 ≤ byt x s ∧ byt x s ≤ 255 := by
  unfold byt
  rw [iA_255]
  omega
theorem cB_r : ∀ L : List Int, 0 ≤ cB L ∧ cB L ≤ L.length := by
  intro L
  induction L with
  | nil => exact ⟨Int.le_refl _, Int.le_refl _⟩
  | cons b L ih =>
    unfold cB
    rw [List.length_cons]
    split <;> omega
theorem cB_app : ∀ L L' : List Int, cB (L ++ L') = cB L + cB L' := by
  intro L L'
  induction L with
  | nil => show cB L' = 0 + cB L'; omega
  | cons b L ih =>
    show (if b = 0 then 0 else 1) + cB (L ++ L') = (if b = 0 then 0 else 1) + cB L + cB L'
    rw [ih]
    omega
theorem apB_1 : ∀ (L : List Int) (s : Int) (T : Int → Int), (apB L s T).1 = s + cB L := by
  intro L
  induction L with
  | nil => intro s T; show s = s + 0; omega
  | cons b L ih =>
    intro s T
    unfold apB cB
    split
    · rw [ih]; omega
    · rw [ih]; omega
theorem apB_cons (b : Int) (L : List Int) (s : Int) (T : Int → Int) : apB (b :: L) s T = if b = 0 then apB L s T else apB L (s + 1) (fun j => if j = s then b else T j) := rfl
theorem apB_app : ∀ (L L' : List Int) (s : Int) (T : Int → Int), apB (L ++ L') s T = apB L' (apB L s T).1 (apB L s T).2 := by
  intro L L'
  induction L with
  | nil => intro s T; rfl
  | cons b L ih =>
    intro s T
    rw [List.cons_append, apB_cons, apB_cons]
    by_cases z : b = 0
    · rw [if_pos z, if_pos z, ih]
    · rw [if_neg z, if_neg z, ih]
theorem apB_cg : ∀ (L : List Int) (s : Int) (T T' : Int → Int), (∀ j, 0 ≤ j → j < s → T j = T' j) → ∀ j, 0 ≤ j → j < s + cB L → (apB L s T).2 j = (apB L s T').2 j := by
  intro L
  induction L with
  | nil => intro s T T' h j h1 h2; exact h j h1 (by have : s + cB [] = s := by show s + 0 = s; omega
                                                    omega)
  | cons b L ih =>
    intro s T T' h j h1 h2
    unfold cB at h2
    unfold apB
    split
    next z =>
      rw [if_pos z] at h2
      exact ih s T T' h j h1 (by omega)
    next z =>
      rw [if_neg z] at h2
      refine ih (s + 1) _ _ (fun i i1 i2 => ?_) j h1 (by omega)
      by_cases z2 : i = s
      · rw [if_pos z2, if_pos z2]
      · rw [if_neg z2, if_neg z2]
        exact h i i1 (by omega)
theorem apB_r : ∀ (L : List Int) (s : Int) (T : Int → Int), 0 ≤ s → (∀ b ∈ L, 0 ≤ b ∧ b ≤ 255) → (∀ j, 0 ≤ j → j < s → 1 ≤ T j ∧ T j ≤ 255) → ∀ j, 0 ≤ j → j < s + cB L → 1 ≤ (apB L s T).2 j ∧ (apB L s T).2 j ≤ 255 := by
  intro L
  induction L with
  | nil => intro s T h0 _ h j h1 h2; exact h j h1 (by have : s + cB [] = s := by show s + 0 = s; omega
                                                      omega)
  | cons b L ih =>
    intro s T h0 hb h j h1 h2
    have hb0 := hb b (by simp)
    unfold cB at h2
    unfold apB
    split
    next z =>
      rw [if_pos z] at h2
      exact ih s T h0 (fun x hx => hb x (by simp [hx])) h j h1 (by omega)
    next z =>
      rw [if_neg z] at h2
      refine ih (s + 1) _ (by omega) (fun x hx => hb x (by simp [hx])) (fun i i1 i2 => ?_) j h1 (by omega)
      by_cases z2 : i = s
      · rw [if_pos z2]; omega
      · rw [if_neg z2]
        exact h i i1 (by omega)
def bL (x y z u v : Int) : List Int := bR x 4 ++ (bR y 4 ++ (bR z 4 ++ (bR u 4 ++ bR v 4)))
theorem bL_r (x y z u v : Int) : ∀ b ∈ bL x y z u v, 0 ≤ b ∧ b ≤ 255 := by
  have h : ∀ (x : Int) (n : Nat), ∀ b ∈ bR x n, 0 ≤ b ∧ b ≤ 255 := by
    intro x n
    induction n with
    | zero => intro b hb; exact absurd hb (by unfold bR; simp)
    | succ n ih =>
      intro b hb
      unfold bR at hb
      rcases List.mem_cons.mp hb with e | e
      · rw [e]; exact byt_r _ _
      · exact ih b e
  intro b hb
  unfold bL at hb
  simp only [List.mem_append] at hb
  rcases hb with e | e | e | e | e
  · exact h _ _ b e
  · exact h _ _ b e
  · exact h _ _ b e
  · exact h _ _ b e
  · exact h _ _ b e
section Tape
variable {X : Cx} {d : Nat} {m m' : Mm} {A : Ab} {t : Int} {Q : Int → Mm → Prop} {Q0 : Mm → Prop}
theorem B_signsIn_5_c (hB : Bsh X.2.2.1) {x : Int} : ∀ (n : Nat) (l1 : Int), n ≤ 4 → Q (l1 + cB (bR x n)) m → B_signsIn_5 X d x l1 (8 * (n : Int) - 8) m Q := by
  intro n
  induction n with
  | zero =>
    intro l1 hn h
    refine B_signsIn_5w hB ⟨by omega, fun _ => ?_, fun z => by omega⟩
    have e : l1 + cB (bR x 0) = l1 := by show l1 + 0 = l1; omega
    rw [e] at h
    exact h
  | succ n ih =>
    intro l1 hn h
    have e8 : 8 * ((n + 1 : Nat) : Int) - 8 = 8 * n := by omega
    unfold bR cB at h
    rw [e8]
    refine B_signsIn_5w hB ⟨by omega, fun z => by omega, fun _ => ⟨fun z => ih l1 (by omega) ?_, fun z => ih (l1 + 1) (by omega) ?_⟩⟩
    · have z' : byt x (8 * n) = 0 := z
      rw [if_pos z', Int.zero_add] at h
      exact h
    · have z' : ¬ byt x (8 * n) = 0 := z
      rw [if_neg z', ← Int.add_assoc] at h
      exact h
theorem B_signsIn_c (hB : Bsh X.2.2.1) {x : Int} (h : Q (cB (bR x 4)) m) : B_signsIn X d x m Q := by
  refine B_signsInw hB ?_
  have := B_signsIn_5_c (d := d) (m := m) (Q := Q) hB (x := x) 4 0 (by decide) (by rw [Int.zero_add]; exact h)
  exact this
theorem B_take_3_c (hB : Bsh X.2.2.1) {x : Int} : ∀ (n : Nat) (m : Mm) (o : Option Int), n ≤ 4 → 0 ≤ m 1 1 → m 1 1 + cB (bR x n) ≤ 240 → (∀ m', m' 1 1 = (apB (bR x n) (m 1 1) (m 2)).1 → m' 2 = (apB (bR x n) (m 1 1) (m 2)).2 → Fr [1, 2] m m' → Q0 m') → B_take_3 X d x (8 * (n : Int) - 8) o m Q0 := by
  intro n
  induction n with
  | zero =>
    intro m o hn h0 hs h
    exact B_take_3w hB ⟨by omega, fun _ => h m rfl rfl (Fr.rf _ _), fun z => by omega⟩
  | succ n ih =>
    intro m o hn h0 hs h
    have e8 : 8 * ((n + 1 : Nat) : Int) - 8 = 8 * n := by omega
    have hr := cB_r (bR x n)
    have hb := byt_r x (8 * n)
    unfold bR apB at h
    unfold bR cB at hs
    rw [e8]
    refine B_take_3w hB ⟨by omega, fun z => by omega, fun _ => ⟨fun z => ?_, fun z => ?_⟩⟩
    · have z' : byt x (8 * n) = 0 := z
      rw [if_pos z'] at h hs
      exact ih m _ (by omega) h0 (by omega) h
    · have z' : ¬ byt x (8 * n) = 0 := z
      rw [if_neg z'] at h hs
      refine ⟨by omega, fun z2 => by omega, fun z2 => ⟨⟨hb.1, by have := hb.2; show byt x (8 * n) < 65536; omega⟩, by omega, ⟨hb.1, by have := hb.2; show byt x (8 * n) < 65536; omega⟩, ?_⟩⟩
      have e2 : ∀ w, up (up m 2 (m 1 1) w) 1 1 (m 1 1 + 1) 2 = (fun j => if j = m 1 1 then w else m 2 j) := by
        intro w
        funext j
        rw [up_ne (Or.inl (by decide)), up_at]
      refine ih _ _ (by omega) (by rw [up_same]; omega) (by rw [up_same]; omega) (fun m' g1 g2 g3 => h m' ?_ ?_ ((((Fr.rf _ _).up (by simp)).up (by simp)).tr g3))
      · rw [g1, up_same, e2]
        rfl
      · rw [g2, up_same, e2]
        rfl
theorem B_take_c (hB : Bsh X.2.2.1) {x : Int} (h0 : 0 ≤ m 1 1) (hs : m 1 1 + cB (bR x 4) ≤ 240) (h : ∀ m', m' 1 1 = (apB (bR x 4) (m 1 1) (m 2)).1 → m' 2 = (apB (bR x 4) (m 1 1) (m 2)).2 → Fr [1, 2] m m' → Q0 m') : B_take X d x m Q0 := B_takew hB (B_take_3_c hB 4 m none (by decide) h0 hs h)
theorem iRm4 {k : Int} (h : 0 ≤ k ∧ k < 20) : iRm k 4 = k % 4 := by
  obtain ⟨u, rfl⟩ : ∃ u : Nat, k = (u : Int) := ⟨k.toNat, by omega⟩
  exact (by decide +kernel : ∀ u : Nat, u < 20 → iRm (u : Int) 4 = (u : Int) % 4) u (by omega)
theorem M_byteOf_c (hB : Bsh X.2.2.1) {x y z u v w : Int} (hw : 0 ≤ w ∧ w < 20) (h : Q ((bL x y z u v).getD w.toNat 0) m) : M_byteOf X d x y z u v w m Q := by
  have key : ∀ (p : Int) (k : Nat), 0 ≤ w - 4 * k → w - 4 * k < 4 → (bL x y z u v).getD w.toNat 0 = (bR p 4).getD (w - 4 * k).toNat 0 → Q (iA (iSr p (-8 * (iRm w 4) + 24)) 255) m := by
    intro p k h1 h2 e
    rw [e] at h
    rw [iRm4 hw]
    have e4 : w % 4 = w - 4 * k := by omega
    rw [e4]
    have h3 : w - 4 * k = 0 ∨ w - 4 * k = 1 ∨ w - 4 * k = 2 ∨ w - 4 * k = 3 := by omega
    rcases h3 with e5 | e5 | e5 | e5 <;> (rw [e5] at h ⊢; exact h)
  have ap : ∀ (L L' : List Int) (i : Nat), L.length ≤ i → (L ++ L').getD i 0 = L'.getD (i - L.length) 0 := fun L L' i hi => by rw [List.getD_eq_getElem?_getD, List.getD_eq_getElem?_getD, List.getElem?_append_right hi]
  have al : ∀ (L L' : List Int) (i : Nat), i < L.length → (L ++ L').getD i 0 = L.getD i 0 := fun L L' i hi => by rw [List.getD_eq_getElem?_getD, List.getD_eq_getElem?_getD, List.getElem?_append_left hi]
  have l4 : ∀ p : Int, (bR p 4).length = 4 := fun p => rfl
  refine M_byteOfw hB ⟨by omega, fun h4 => ⟨fun h8 => ⟨fun h12 => ⟨fun h16 => key v 4 (by omega) (by omega) ?_, fun h16 => key u 3 (by omega) (by omega) ?_⟩, fun h12 => key z 2 (by omega) (by omega) ?_⟩, fun h8 => key y 1 (by omega) (by omega) ?_⟩, fun h4 => key x 0 (by omega) (by omega) ?_⟩
  · unfold bL
    rw [ap _ _ _ (by rw [l4]; omega), ap _ _ _ (by rw [l4, l4]; omega), ap _ _ _ (by rw [l4, l4, l4]; omega), ap _ _ _ (by rw [l4, l4, l4, l4]; omega), l4, l4, l4, l4]
    congr 1
    omega
  · unfold bL
    rw [ap _ _ _ (by rw [l4]; omega), ap _ _ _ (by rw [l4, l4]; omega), ap _ _ _ (by rw [l4, l4, l4]; omega), al _ _ _ (by rw [l4, l4, l4, l4]; omega), l4, l4, l4]
    congr 1
    omega
  · unfold bL
    rw [ap _ _ _ (by rw [l4]; omega), ap _ _ _ (by rw [l4, l4]; omega), al _ _ _ (by rw [l4, l4, l4]; omega), l4, l4]
    congr 1
    omega
  · unfold bL
    rw [ap _ _ _ (by rw [l4]; omega), al _ _ _ (by rw [l4, l4]; omega), l4]
    congr 1
    omega
  · unfold bL
    rw [al _ _ _ (by rw [l4]; omega)]
    congr 1
    omega
theorem drop_cons {L : List Int} {i : Nat} (h : i < L.length) : L.drop i = L.getD i 0 :: L.drop (i + 1) := by
  rw [List.drop_eq_getElem_cons h, List.getD_eq_getElem?_getD, List.getElem?_eq_getElem h]
  rfl
theorem M_feed_62_c (hB : Bsh X.2.2.1) {x y z u v l6 : Int} : ∀ (f : Nat) (m : Mm) (l7 : Int) (o : Option Int), 0 ≤ l7 → 20 - l7 = f → 0 ≤ m 83 2 → m 83 2 + cB ((bL x y z u v).drop l7.toNat) ≤ 240 → (∀ m', m' 83 2 = (apB ((bL x y z u v).drop l7.toNat) (m 83 2) (m 84)).1 → m' 84 = (apB ((bL x y z u v).drop l7.toNat) (m 83 2) (m 84)).2 → (∀ k, k ≠ 2 → m' 83 k = m 83 k) → Fr [83, 84] m m' → Q (m' 83 2) m') → M_feed_62 X (d + 1) x y z u v l6 l7 o m Q := by
  intro f
  have l20 : (bL x y z u v).length = 20 := rfl
  induction f with
  | zero =>
    intro m l7 o hl hf h0 hs h
    rw [List.drop_eq_nil_of_le (by omega)] at h
    exact M_feed_62w hB ⟨by omega, fun _ => h m rfl rfl (fun _ _ => rfl) (Fr.rf _ _), fun z => by omega⟩
  | succ f ih =>
    intro m l7 o hl hf h0 hs h
    have hd := drop_cons (L := bL x y z u v) (i := l7.toNat) (by omega)
    have e7 : l7.toNat + 1 = (l7 + 1).toNat := by omega
    rw [e7] at hd
    rw [hd] at hs h
    have hb := bL_r x y z u v ((bL x y z u v).getD l7.toNat 0) (by rw [List.getD_eq_getElem?_getD, List.getElem?_eq_getElem (by omega)]; exact List.getElem_mem _)
    have hr := cB_r ((bL x y z u v).drop (l7 + 1).toNat)
    unfold apB at h
    unfold cB at hs
    refine M_feed_62w hB ⟨by omega, fun z => by omega, fun _ => M_byteOf_c hB (by omega) ⟨by omega, fun zz => ?_, fun zz => ?_⟩⟩
    · rw [if_pos zz] at h hs
      exact ih m (l7 + 1) _ (by omega) (by omega) h0 (by omega) h
    · rw [if_neg zz] at h hs
      have e1 : up (up m 84 (m 83 2) ((bL x y z u v).getD l7.toNat 0)) 83 2 (m 83 2 + 1) 83 2 = m 83 2 + 1 := up_same _ _ _ _
      have e2 : up (up m 84 (m 83 2) ((bL x y z u v).getD l7.toNat 0)) 83 2 (m 83 2 + 1) 84 = (fun j => if j = m 83 2 then (bL x y z u v).getD l7.toNat 0 else m 84 j) := by
        funext j
        rw [up_ne (Or.inl (by decide)), up_at]
      refine ⟨by omega, ih _ (l7 + 1) _ (by omega) (by omega) (by rw [e1]; omega) (by rw [e1]; omega) (fun m' g1 g2 g3 g4 => h m' (by rw [g1, e1, e2]) (by rw [g2, e1, e2]) (fun k hk => by rw [g3 k hk, up_ne (Or.inr hk), up_ne (Or.inl (by decide))]) ((((Fr.rf _ _).up (by simp)).up (by simp)).tr g4))⟩
theorem M_feed_6_c (hB : Bsh X.2.2.1) {x y z u v : Int} (h2 : 0 ≤ m 83 2 ∧ m 83 2 ≤ 240) : ∀ (f : Nat) (l6 l7 : Int), 0 ≤ l7 → 20 - l7 = f → 0 ≤ l6 → l6 ≤ l7 → (∀ n, n = l6 + cB ((bL x y z u v).drop l7.toNat) → (m 83 2 + n ≤ 240 → M_feed_62 X (d + 1) x y z u v n 0 none m Q) ∧ (240 < m 83 2 + n → Q (-1) m)) → M_feed_6 X (d + 1) x y z u v l6 l7 m Q := by
  intro f
  have l20 : (bL x y z u v).length = 20 := rfl
  induction f with
  | zero =>
    intro l6 l7 hl hf h0 h1 h
    rw [List.drop_eq_nil_of_le (by omega)] at h
    have h' := h l6 (by show l6 = l6 + 0; omega)
    exact M_feed_6w hB ⟨by omega, fun _ => ⟨by omega, h'.1, h'.2⟩, fun z => by omega⟩
  | succ f ih =>
    intro l6 l7 hl hf h0 h1 h
    have hd := drop_cons (L := bL x y z u v) (i := l7.toNat) (by omega)
    have e7 : l7.toNat + 1 = (l7 + 1).toNat := by omega
    rw [e7] at hd
    rw [hd] at h
    have hb := bL_r x y z u v ((bL x y z u v).getD l7.toNat 0) (by rw [List.getD_eq_getElem?_getD, List.getElem?_eq_getElem (by omega)]; exact List.getElem_mem _)
    unfold cB at h
    refine M_feed_6w hB ⟨by omega, fun z => by omega, fun _ => M_byteOf_c hB (by omega) ⟨by omega, fun z => ?_, fun z => ?_⟩⟩
    · rw [if_pos z, Int.zero_add] at h
      exact ih l6 (l7 + 1) (by omega) (by omega) h0 (by omega) h
    · rw [if_neg z] at h
      exact ih (l6 + 1) (l7 + 1) (by omega) (by omega) (by omega) (by omega) (fun n hn => h n (by omega))
theorem op_feed (hB : Bsh X.2.2.1) (hI : InvA X m A t) (ht : t + 1 ≤ 1000) {x y z u v : Int} : ∃ A', AOk A' (t + 1) ∧ Bth X A' t (V_feed X (d + 20) x y z u v) (M_feed X (d + 20) x y z u v) m := by
  have hT := hI.2.2.2.1
  have hA1 := hI.2.2.up ht
  obtain ⟨N, hN⟩ : ∃ N, N = cB (bL x y z u v) := ⟨_, rfl⟩
  have hNs : N = cB (bR x 4) + (cB (bR y 4) + (cB (bR z 4) + (cB (bR u 4) + cB (bR v 4)))) := by
    rw [hN]
    unfold bL
    rw [cB_app, cB_app, cB_app, cB_app]
  have r1 := cB_r (bR x 4)
  have r2 := cB_r (bR y 4)
  have r3 := cB_r (bR z 4)
  have r4 := cB_r (bR u 4)
  have r5 := cB_r (bR v 4)
  have l4 : ∀ p : Int, (bR p 4).length = 4 := fun p => rfl
  rw [l4] at r1 r2 r3 r4 r5
  have e11 : m 1 1 = abS A := hI.1.1.1
  by_cases c : abS A + N ≤ 240
  · have a1 := apB_1 (bL x y z u v) (abS A) (abT A)
    rw [← hN] at a1
    refine ⟨setT A (abS A + N) (apB (bL x y z u v) (abS A) (abT A)).2, ⟨hA1.1, ⟨by show 0 ≤ abS A + N; omega, c, fun j h1 h2 => apB_r _ _ _ hT.1 (bL_r _ _ _ _ _) hT.2.2 j h1 (by rw [← hN]; exact h2)⟩, hA1.2.2⟩, bth_of (F := abS A + N) hI (fun Q h => ?_) (fun m1 Q h1 h => ?_)⟩
    · refine V_feedw hB (B_signsIn_c hB (B_signsIn_c hB (B_signsIn_c hB (B_signsIn_c hB (B_signsIn_c hB ⟨by omega, fun _ => ?_, fun e => by omega⟩)))))
      refine B_take_c hB (by omega) (by omega) (fun m1 g1 g2 g3 => ?_)
      rw [apB_1] at g1
      refine B_take_c hB (by omega) (by omega) (fun m2 k1 k2 k3 => ?_)
      rw [apB_1] at k1
      refine B_take_c hB (by omega) (by omega) (fun m3 i1 i2 i3 => ?_)
      rw [apB_1] at i1
      refine B_take_c hB (by omega) (by omega) (fun m4 o1 o2 o3 => ?_)
      rw [apB_1] at o1
      refine B_take_c hB (by omega) (by omega) (fun m5 s1 s2 s3 => ?_)
      rw [apB_1] at s1
      have e5 : m5 1 1 = abS A + N := by omega
      have ef := (((g3.tr k3).tr i3).tr o3).tr s3
      have e2 : m5 2 = (apB (bL x y z u v) (m 1 1) (m 2)).2 := by
        unfold bL
        rw [apB_app, apB_app, apB_app, apB_app, s2, o2, i2, k2, g2]
        simp only [apB_1]
        rw [o1, i1, k1, g1]
      rw [e5]
      obtain ⟨-, ⟨c', c2, b1, b2, b3, b4, b5, b6, b7, b8⟩, a3, a4, a5, a6, a7, a8, a9⟩ := hI.1.up
      have f : ∀ a, a ≠ 1 → a ≠ 2 → m5 a = m a := fun a h1 h2 => ef a (by simp; omega)
      refine h m5 ?_ (fun a ha => f a (by omega) (by omega))
      unfold CW
      rw [f 0 (by decide) (by decide), f 18 (by decide) (by decide), f 17 (by decide) (by decide), f 82 (by decide) (by decide), f 73 (by decide) (by decide), f 77 (by decide) (by decide), f 78 (by decide) (by decide), f 79 (by decide) (by decide)]
      refine ⟨⟨e5, fun j h1 h2 => ?_⟩, ⟨c', c2, b1, b2, b3, b4, b5, b6, b7.fr (f _ (by omega) (by omega)) (f _ (by omega) (by omega)) (f _ (by omega) (by omega)), fun j h1 h2 => by rw [f (c' + 3) (by omega) (by omega)]; exact b8 j h1 h2⟩, a3.cg (by rw [f 0 (by decide) (by decide)]) (by rw [f 0 (by decide) (by decide)]) (by rw [f 18 (by decide) (by decide)]) (f 8 (by decide) (by decide)) (fun a ha => f a (by omega) (by omega)), a4.cg (f _ (by decide) (by decide)) (by rw [f 21 (by decide) (by decide)]) (by rw [f 21 (by decide) (by decide)]) (f _ (by decide) (by decide)) (f _ (by decide) (by decide)) (fun a h1 h2 => f a (by omega) (by omega)), a5.cg (by rw [f 21 (by decide) (by decide)]) (f _ (by decide) (by decide)) (f _ (by decide) (by decide)), a6, a7, a8, a9⟩
      rw [e2, e11]
      exact apB_cg _ _ _ _ (fun i i1 i2 => hI.1.1.2 i i1 i2) j h1 (by rw [← hN]; exact h2)
    · have e2 := h1.1.1
      refine M_feedw hB (M_feed_6_c hB (by omega) 20 0 0 (by omega) (by omega) (by omega) (by omega) (fun n hn => ⟨fun _ => M_feed_62_c hB 20 m1 0 none (by omega) (by omega) (by omega) (by show m1 83 2 + cB (bL x y z u v) ≤ 240; rw [← hN]; omega) (fun m2 g1 g2 g3 g4 => ?_), fun e => ?_⟩))
      · have hd : (bL x y z u v).drop (0 : Int).toNat = bL x y z u v := rfl
        rw [hd] at g1 g2
        rw [apB_1, ← hN, e2] at g1
        rw [g1]
        refine h m2 ?_ (fun a ha => g4 a (by simp; omega))
        have h1T := h1.1.2
        obtain ⟨-, a2, a3, a4, a5, a6, a7, a8, a9⟩ := h1
        unfold MW
        rw [g3 33 (by decide), g3 48 (by decide), g4 100 (by decide), g4 102 (by decide), g4 107 (by decide), g4 108 (by decide), g4 109 (by decide)]
        refine ⟨⟨g1, fun j j1 j2 => ?_⟩, ?_, a3, a4.cg (g3 13 (by decide)) (g3 32 (by decide)) (fun a x y => g4 a (by simp; omega)), ?_, ?_, a7, a8, a9⟩
        · rw [g2, e2]
          exact apB_cg _ _ _ _ (fun i i1 i2 => h1T i i1 i2) j j1 (by rw [← hN]; exact j2)
        · unfold kM at a2 ⊢
          rw [g3 27 (by decide), g3 28 (by decide), g3 29 (by decide), g4 98 (by decide), g4 99 (by decide)]
          exact a2
        · unfold MR at a5 ⊢
          rw [g3 36 (by decide), g4 101 (by decide), g4 103 (by decide)]
          exact a5
        · unfold MIm at a6 ⊢
          rw [g3 52 (by decide), g4 112 (by decide)]
          exact a6
      · have hn' : n = N := by rw [hn, hN, Int.zero_add]; rfl
        omega
  · refine ⟨A, hA1, bth_of (F := -1) hI (fun Q h => ?_) (fun m1 Q h1 h => ?_)⟩
    · exact V_feedw hB (B_signsIn_c hB (B_signsIn_c hB (B_signsIn_c hB (B_signsIn_c hB (B_signsIn_c hB ⟨by omega, fun e => by omega, fun _ => h m hI.1.up (fun _ _ => rfl)⟩)))))
    · have e2 := h1.1.1
      refine M_feedw hB (M_feed_6_c hB (by omega) 20 0 0 (by omega) (by omega) (by omega) (by omega) (fun n hn => ⟨fun e => ?_, fun _ => h m1 h1 (fun _ _ => rfl)⟩))
      have hn' : n = N := by rw [hn, hN, Int.zero_add]; rfl
      omega
end Tape
