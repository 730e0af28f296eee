/-! ===== text: a canton is taken ===== -/
/-- the canton that was read -/
def Kof (s : Cs) (r b : Int → Int) : Kn := (pvF r 0 5 (csR s), pvF b 0 24 (csB s), csNb s, csNm s, icF (csI s) (csNi s).toNat)
def Bof (s : Cs) (p : Int → Int) : Int → Int := pvF p 0 24 (csM s)
def qof (K : Kn) (B p : Int → Int) : Int → Int := fun j => if j = 24 then 0 else bgQ K B p j
theorem qof_24 {K : Kn} {B p : Int → Int} : qof K B p 24 = 0 := by unfold qof; rw [if_pos rfl]
theorem pv_in {f v : Int → Int} {fr mn j : Int} (h : fr ≤ j ∧ j < fr + mn) : pvF f fr mn v j = v (j - fr) := by unfold pvF; rw [if_pos h]
theorem pv_out {f v : Int → Int} {fr mn j : Int} (h : ¬ (fr ≤ j ∧ j < fr + mn)) : pvF f fr mn v j = f j := by unfold pvF; rw [if_neg h]
theorem Kof_ok {s : Cs} {r b : Int → Int} (h : csOk s) (hw : whP s) : Kok (Kof s r b) := by
  obtain ⟨o1, o2, o3, o4, o5, o6, o7, o8⟩ := h
  obtain ⟨w1, w2, w3, w4⟩ := hw
  have R : ∀ j, 0 ≤ j → j < 5 → pvF r 0 5 (csR s) j = csR s j := fun j h1 h2 => by rw [pv_in (by omega), show j - 0 = j by omega]
  have R0 := o5 0 (by decide) (by decide)
  have R1 := o5 1 (by decide) (by decide)
  have R2 := o5 2 (by decide) (by decide)
  have R3' := o5 3 (by decide) (by decide)
  have R4 := o5 4 (by decide) (by decide)
  have l0 : loK 0 0 = 3 ∧ hiK 0 0 = 9 ∧ loK 0 1 = 0 ∧ loK 0 2 = 1 ∧ hiK 0 2 = 60 ∧ loK 0 3 = 1 ∧ hiK 0 3 = 20 ∧ loK 0 4 = 0 ∧ hiK 0 4 = 9 := by decide
  have lb : loK 1 0 = 1 ∧ hiK 1 0 = 20 ∧ loK 1 1 = 0 ∧ loK 1 2 = 1 ∧ hiK 1 2 = 9 ∧ loK 1 3 = 0 ∧ hiK 1 3 = 1 := by decide
  have ic := (icF_r (I := csI s) (csNi s).toNat (fun b q1 q2 => o7 b q1 (by omega))).1
  have e0 : kR (Kof s r b) 0 = csR s 0 := R 0 (by decide) (by decide)
  have e1 : kR (Kof s r b) 1 = csR s 1 := R 1 (by decide) (by decide)
  have e2 : kR (Kof s r b) 2 = csR s 2 := R 2 (by decide) (by decide)
  have e3 : kR (Kof s r b) 3 = csR s 3 := R 3 (by decide) (by decide)
  have e4 : kR (Kof s r b) 4 = csR s 4 := R 4 (by decide) (by decide)
  have em : kNm (Kof s r b) = csNm s := rfl
  have eb : kNb (Kof s r b) = csNb s := rfl
  refine ⟨by omega, by omega, by omega, by omega, by omega, by omega, by omega, ic, fun x h1 h2 => ?_⟩
  have B : ∀ j, 0 ≤ j → j < 4 → kB (Kof s r b) (4 * x + j) = csB s (4 * x + j) := fun j h3 h4 => by
    show pvF b 0 24 (csB s) (4 * x + j) = _
    rw [pv_in (by omega), show 4 * x + j - 0 = 4 * x + j by omega]
  have b0 := B 0 (by decide) (by decide)
  rw [Int.add_zero] at b0
  have b1 := B 1 (by decide) (by decide)
  have b2 := B 2 (by decide) (by decide)
  have b3 := B 3 (by decide) (by decide)
  have c0 := o6 x h1 (by omega) 0 (by decide) (by decide)
  rw [Int.add_zero] at c0
  have c1 := o6 x h1 (by omega) 1 (by decide) (by decide)
  have c2 := o6 x h1 (by omega) 2 (by decide) (by decide)
  have c3 := o6 x h1 (by omega) 3 (by decide) (by decide)
  have c4 := (w3 x h1 (by omega)).1
  exact ⟨by omega, by omega, by omega, by omega⟩
theorem Bof_ok {s : Cs} {r b p : Int → Int} (h : csOk s) : Bok (Kof s r b) (Bof s p) := by
  obtain ⟨o1, o2, o3, o4, o5, o6, o7, o8⟩ := h
  intro x h1 h2
  have em : kNm (Kof s r b) = csNm s := rfl
  have lb : loK 3 0 = 1 ∧ hiK 3 0 = 9 ∧ loK 3 1 = 0 ∧ hiK 3 1 = 2 ∧ loK 3 2 = 0 ∧ hiK 3 2 = 9 ∧ loK 3 3 = 0 ∧ hiK 3 3 = 9 := by decide
  have B : ∀ j, 0 ≤ j → j < 4 → Bof s p (4 * x + j) = csM s (4 * x + j) := fun j h3 h4 => by
    show pvF p 0 24 (csM s) (4 * x + j) = _
    rw [pv_in (by omega), show 4 * x + j - 0 = 4 * x + j by omega]
  have b0 := B 0 (by decide) (by decide)
  rw [Int.add_zero] at b0
  have b1 := B 1 (by decide) (by decide)
  have b2 := B 2 (by decide) (by decide)
  have b3 := B 3 (by decide) (by decide)
  have c0 := o8 x h1 (by omega) 0 (by decide) (by decide)
  rw [Int.add_zero] at c0
  have c1 := o8 x h1 (by omega) 1 (by decide) (by decide)
  have c2 := o8 x h1 (by omega) 2 (by decide) (by decide)
  have c3 := o8 x h1 (by omega) 3 (by decide) (by decide)
  exact ⟨by omega, by omega, by omega, by omega⟩
theorem qof_e {K : Kn} {B p : Int → Int} {j : Int} (h : j ≠ 24) : qof K B p j = bgQ K B p j := by unfold qof; rw [if_neg h]
theorem qof_ok {K : Kn} {B p : Int → Int} (hK : Kok K) (hB : Bok K B) : Qok K (qof K B p) := by
  obtain ⟨a1, a2, a3, a4, a5, a6⟩ := bgQ_ok (p := p) hK hB
  have hn := hK.1
  refine ⟨fun k h1 h2 => ?_, ?_, ?_, ?_, ?_, ?_⟩
  · rw [qof_e (by omega), qof_e (by omega), qof_e (by omega)]; exact a1 k h1 h2
  · rw [qof_e (by decide)]; exact a2
  · rw [qof_e (by decide)]; exact a3
  · rw [qof_e (by decide)]; exact a4
  · rw [qof_e (by decide)]; exact a5
  · rw [qof_e (by decide)]; exact a6
theorem qof_sr {K : Kn} {B p f wt : Int → Int} (hn : kNm K ≤ 6) (h : Sr K wt f (bgQ K B p)) : Sr K wt f (qof K B p) := by
  obtain ⟨a1, a2, a3, a4, a5, a6, a7⟩ := h
  refine ⟨fun k h1 h2 => ?_, ?_, ?_, ?_, ?_, ?_, ?_⟩
  · rw [qof_e (by omega), qof_e (by omega), qof_e (by omega)]; exact a1 k h1 h2
  · rw [qof_e (by decide)]; exact a2
  · rw [qof_e (by decide)]; exact a3
  · rw [qof_e (by decide)]; exact a4
  · rw [qof_e (by decide)]; exact a5
  · rw [qof_e (by decide)]; exact a6
  · rw [qof_e (by decide)]; exact a7
section Text
variable {X : Cx} {d : Nat} {m : Mm} {A A' : Ab} {t : Int} {Q : Int → Mm → Prop} {s : Cs}
theorem M_take_c (hB : Bsh X.2.2.1) (hS : MSt m s) (hok : csOk s) (h : ∀ m', m' 98 = pvF (m 98) 0 5 (csR s) → m' 99 = pvF (m 99) 0 24 (csB s) → m' 100 = pvF (m 100) 0 24 (csM s) → m' 83 27 = csNb s → m' 83 28 = csNm s → m' 83 29 = icF (csI s) (csNi s).toNat → m' 101 = qof (Kof s (m 98) (m 99)) (Bof s (m 100)) (m 101) → m' 83 48 = 0 → m' 83 36 = 0 → m' 83 52 = 0 → Fr [83, 98, 99, 100, 101] m m' → (∀ k, k ≠ 27 → k ≠ 28 → k ≠ 29 → k ≠ 48 → k ≠ 36 → k ≠ 52 → m' 83 k = m 83 k) → Q (csNm s) m') : M_takeCanton X (d + 2) m Q := by
  obtain ⟨S1, S2, S3, S4, S5, S6, S7⟩ := hS
  obtain ⟨o1, o2, o3, o4, o5, o6, o7, o8⟩ := hok
  refine M_takeCantonw hB ?_
  rw [S5, S7]
  obtain ⟨m1, hm1⟩ : ∃ m1, m1 = up (up m 83 27 (csNb s)) 83 28 (csNm s) := ⟨_, rfl⟩
  rw [← hm1]
  have k1 : ∀ k, k ≠ 27 → k ≠ 28 → m1 83 k = m 83 k := fun k h1 h2 => by rw [hm1, up_ne (Or.inr h2), up_ne (Or.inr h1)]
  have e27 : m1 83 27 = csNb s := by rw [hm1, up_ne (Or.inr (by decide)), up_same]
  have e28 : m1 83 28 = csNm s := by rw [hm1, up_same]
  have f1 : Fr [83] m m1 := by rw [hm1]; exact ((Fr.rf _ m).up (by simp)).up (by simp)
  have st : ∀ (a : Nat) (f : Int → Int) (l : Int), pvF f 0 (l + 1) (fun j => f j) = pvF f 0 (l + 1) f := fun _ _ _ => rfl
  -- ice, then the beginning
  have L4 : ∀ (f : Nat) (l : Int) (m2 : Mm), 0 ≤ l → csNi s - l = f → Fr [83, 98, 99, 100] m m2 → m2 98 = pvF (m 98) 0 5 (csR s) → m2 99 = pvF (m 99) 0 24 (csB s) → m2 100 = pvF (m 100) 0 24 (csM s) → (∀ k, k ≠ 29 → m2 83 k = m1 83 k) → m2 83 29 = icF (csI s) l.toNat → M_takeCanton_100 X (d + 2) l m2 Q := by
    intro f
    induction f with
    | zero =>
      intro l m2 hl hf hfr q98 q99 q100 hk h29
      have el : l = csNi s := by omega
      have e22 : m2 83 22 = csNi s := by rw [hk 22 (by decide), k1 22 (by decide) (by decide)]; exact S6
      refine M_takeCanton_100w hB ⟨by omega, by omega, fun _ => ?_, fun z => by omega⟩
      have ek : kM m2 = Kof s (m 98) (m 99) := by
        unfold kM Kof
        rw [q98, q99, hk 27 (by decide), e27, hk 28 (by decide), e28, h29, el]
      refine M_begin_c (K := Kof s (m 98) (m 99)) (B := Bof s (m 100)) hB (by show 0 ≤ csNm s ∧ csNm s ≤ 6; exact o4) ek q100 (fun m3 g1 g2 => ?_)
      rw [hfr 101 (by decide)] at g1
      have e83 : m3 83 = m2 83 := g2 83 (by decide)
      have c28 : m3 83 28 = csNm s := by rw [e83, hk 28 (by decide)]; exact e28
      rw [c28]
      refine h _ ?_ ?_ ?_ ?_ ?_ ?_ ?_ ?_ ?_ ?_ ?_ ?_
      · rw [up_off (by decide), up_off (by decide), up_off (by decide), up_off (by decide), g2 98 (by decide)]; exact q98
      · rw [up_off (by decide), up_off (by decide), up_off (by decide), up_off (by decide), g2 99 (by decide)]; exact q99
      · rw [up_off (by decide), up_off (by decide), up_off (by decide), up_off (by decide), g2 100 (by decide)]; exact q100
      · rw [up_ne (Or.inr (by decide)), up_ne (Or.inr (by decide)), up_ne (Or.inr (by decide)), up_ne (Or.inl (by decide)), e83, hk 27 (by decide)]; exact e27
      · rw [up_ne (Or.inr (by decide)), up_ne (Or.inr (by decide)), up_ne (Or.inr (by decide)), up_ne (Or.inl (by decide))]; exact c28
      · rw [up_ne (Or.inr (by decide)), up_ne (Or.inr (by decide)), up_ne (Or.inr (by decide)), up_ne (Or.inl (by decide)), e83, h29, el]
      · funext j
        rw [up_off (by decide), up_off (by decide), up_off (by decide), up_at, g1]
        rfl
      · rw [up_ne (Or.inr (by decide)), up_ne (Or.inr (by decide)), up_same]
      · rw [up_ne (Or.inr (by decide)), up_same]
      · rw [up_same]
      · exact ((((hfr.wd (by decide)).tr (g2.wd (by decide))).up (by simp)).up (by simp)).up (by simp) |>.up (by simp)
      · intro k z1 z2 z3 z4 z5 z6
        rw [up_ne (Or.inr z6), up_ne (Or.inr z5), up_ne (Or.inr z4), up_ne (Or.inl (by decide)), e83, hk k z3, k1 k z1 z2]
    | succ f ih =>
      intro l m2 hl hf hfr q98 q99 q100 hk h29
      have e22 : m2 83 22 = csNi s := by rw [hk 22 (by decide), k1 22 (by decide) (by decide)]; exact S6
      have e96 : m2 96 l = csI s l := by rw [hfr 96 (by decide), S3]
      refine M_takeCanton_100w hB ⟨by omega, by omega, fun z => by omega, fun _ => ⟨by omega, ih (l + 1) _ (by omega) (by omega) (hfr.up (by simp)) (by rw [up_off (by decide)]; exact q98) (by rw [up_off (by decide)]; exact q99) (by rw [up_off (by decide)]; exact q100) (fun k hkk => by rw [up_ne (Or.inr hkk)]; exact hk k hkk) ?_⟩⟩
      rw [up_same, h29, e96, show (l + 1).toNat = l.toNat + 1 by omega]
      show _ = iO (icF (csI s) l.toNat) (iSl 1 (csI s (l.toNat : Int)))
      rw [show ((l.toNat : Nat) : Int) = l by omega]
  have L3 : ∀ (f : Nat) (l : Int) (m2 : Mm), 0 ≤ l → 24 - l = f → Fr [83, 98, 99, 100] m m2 → m2 98 = pvF (m 98) 0 5 (csR s) → m2 99 = pvF (m 99) 0 24 (csB s) → (∀ j, m2 100 j = if 0 ≤ j ∧ j < l then csM s j else m 100 j) → (∀ k, m2 83 k = m1 83 k) → M_takeCanton_69 X (d + 2) l m2 Q := by
    intro f
    induction f with
    | zero =>
      intro l m2 hl hf hfr q98 q99 q100 hk
      refine M_takeCanton_69w hB ⟨by omega, fun _ => L4 (csNi s).toNat 0 _ (by decide) (by omega) (hfr.up (by simp)) (by rw [up_off (by decide)]; exact q98) (by rw [up_off (by decide)]; exact q99) ?_ (fun k hkk => by rw [up_ne (Or.inr hkk)]; exact hk k) (by rw [up_same]; rfl), fun z => by omega⟩
      funext j
      rw [up_off (by decide), q100 j]
      unfold pvF
      by_cases z : 0 ≤ j ∧ j < 24
      · rw [if_pos (by omega), if_pos (by omega), show j - 0 = j by omega]
      · rw [if_neg (by omega), if_neg (by omega)]
    | succ f ih =>
      intro l m2 hl hf hfr q98 q99 q100 hk
      refine M_takeCanton_69w hB ⟨by omega, fun z => by omega, fun _ => ⟨by omega, ih (l + 1) _ (by omega) (by omega) (hfr.up (by simp)) (by rw [up_off (by decide)]; exact q98) (by rw [up_off (by decide)]; exact q99) (fun j => ?_) (fun k => by rw [up_off (by decide)]; exact hk k)⟩⟩
      rw [up_at, q100 j, hfr 97 (by decide), S4]
      by_cases z : j = l
      · rw [if_pos z, if_pos (by omega), z]
      · rw [if_neg z]
        by_cases z2 : 0 ≤ j ∧ j < l
        · rw [if_pos z2, if_pos (by omega)]
        · rw [if_neg z2, if_neg (by omega)]
  have L2 : ∀ (f : Nat) (l : Int) (m2 : Mm), 0 ≤ l → 24 - l = f → Fr [83, 98, 99, 100] m m2 → m2 98 = pvF (m 98) 0 5 (csR s) → (∀ j, m2 99 j = if 0 ≤ j ∧ j < l then csB s j else m 99 j) → m2 100 = m 100 → (∀ k, m2 83 k = m1 83 k) → M_takeCanton_43 X (d + 2) l m2 Q := by
    intro f
    induction f with
    | zero =>
      intro l m2 hl hf hfr q98 q99 q100 hk
      refine M_takeCanton_43w hB ⟨by omega, fun _ => L3 24 0 _ (by decide) (by decide) hfr q98 ?_ (fun j => by rw [if_neg (by omega), q100]) hk, fun z => by omega⟩
      funext j
      rw [q99 j]
      unfold pvF
      by_cases z : 0 ≤ j ∧ j < 24
      · rw [if_pos (by omega), if_pos (by omega), show j - 0 = j by omega]
      · rw [if_neg (by omega), if_neg (by omega)]
    | succ f ih =>
      intro l m2 hl hf hfr q98 q99 q100 hk
      refine M_takeCanton_43w hB ⟨by omega, fun z => by omega, fun _ => ⟨by omega, ih (l + 1) _ (by omega) (by omega) (hfr.up (by simp)) (by rw [up_off (by decide)]; exact q98) (fun j => ?_) (by rw [up_off (by decide)]; exact q100) (fun k => by rw [up_off (by decide)]; exact hk k)⟩⟩
      rw [up_at, q99 j, hfr 95 (by decide), S2]
      by_cases z : j = l
      · rw [if_pos z, if_pos (by omega), z]
      · rw [if_neg z]
        by_cases z2 : 0 ≤ j ∧ j < l
        · rw [if_pos z2, if_pos (by omega)]
        · rw [if_neg z2, if_neg (by omega)]
  have L1 : ∀ (f : Nat) (l : Int) (m2 : Mm), 0 ≤ l → 5 - l = f → Fr [83, 98, 99, 100] m m2 → (∀ j, m2 98 j = if 0 ≤ j ∧ j < l then csR s j else m 98 j) → m2 99 = m 99 → m2 100 = m 100 → (∀ k, m2 83 k = m1 83 k) → M_takeCanton_18 X (d + 2) l m2 Q := by
    intro f
    induction f with
    | zero =>
      intro l m2 hl hf hfr q98 q99 q100 hk
      refine M_takeCanton_18w hB ⟨by omega, fun _ => L2 24 0 _ (by decide) (by decide) hfr ?_ (fun j => by rw [if_neg (by omega), q99]) q100 hk, fun z => by omega⟩
      funext j
      rw [q98 j]
      unfold pvF
      by_cases z : 0 ≤ j ∧ j < 5
      · rw [if_pos (by omega), if_pos (by omega), show j - 0 = j by omega]
      · rw [if_neg (by omega), if_neg (by omega)]
    | succ f ih =>
      intro l m2 hl hf hfr q98 q99 q100 hk
      refine M_takeCanton_18w hB ⟨by omega, fun z => by omega, fun _ => ⟨by omega, ih (l + 1) _ (by omega) (by omega) (hfr.up (by simp)) (fun j => ?_) (by rw [up_off (by decide)]; exact q99) (by rw [up_off (by decide)]; exact q100) (fun k => by rw [up_off (by decide)]; exact hk k)⟩⟩
      rw [up_at, q98 j, hfr 94 (by decide), S1]
      by_cases z : j = l
      · rw [if_pos z, if_pos (by omega), z]
      · rw [if_neg z]
        by_cases z2 : 0 ≤ j ∧ j < l
        · rw [if_pos z2, if_pos (by omega)]
        · rw [if_neg z2, if_neg (by omega)]
  exact L1 5 0 m1 (by decide) (by decide) (f1.wd (by decide)) (fun j => by rw [if_neg (by omega), f1 98 (by decide)]) (f1 99 (by decide)) (f1 100 (by decide)) (fun _ => rfl)
/-- with the canton that was read -/
def AofC (A : Ab) (s : Cs) : Ab := ((0, abT A), (Kof s (kR (abK A)) (kB (abK A)), Bof s (abB A)), (qof (Kof s (kR (abK A)) (kB (abK A))) (Bof s (abB A)) (abQ A), [], none), A.2.2.2.1, (0, abNr A, abNc A, abNi A), A.2.2.2.2.2)
theorem AofC_ok (hA : AOk A t) (ht : t + 1 ≤ 1000) (hok : csOk s) (hw : whP s) : AOk (AofC A s) (t + 1) := by
  have hK := Kof_ok (r := kR (abK A)) (b := kB (abK A)) hok hw
  have hBk := Bof_ok (r := kR (abK A)) (b := kB (abK A)) (p := abB A) hok
  have hA1 := hA.up ht
  obtain ⟨a0, a1, a2, a3, a4, a5, a6, a7, a8, a9⟩ := hA1
  obtain ⟨w1, -⟩ := hw
  have em : kNm (abK (AofC A s)) = csNm s := rfl
  have o4 := hok.2.2.2.1
  refine ⟨a0, ⟨by show (0 : Int) ≤ 0; decide, by show (0 : Int) ≤ 240; decide, fun j h1 h2 => ?_⟩, by omega, fun e => by omega, fun _ => ⟨hK, hBk, ⟨qof_ok hK hBk, ?_, ?_⟩, (fun a (ha : a ∈ ([] : List (Int → Int))) => by cases ha), (fun a (ha : (none : Option (Int → Int)) = some a) => by cases ha)⟩, a5, a6, ⟨by show (0 : Int) ≤ 0 ∧ (0 : Int) ≤ 10; decide, fun j h1 h2 => ?_⟩, a8, a9⟩
  · have : j < 0 := h2
    omega
  · show 0 ≤ qof _ _ _ 23
    rw [qof_e (by decide)]
    unfold bgQ bgL
    have hn := hK.1
    rw [if_neg (by decide), if_neg (by decide), if_neg (by omega), if_neg (by omega), if_neg (by omega), if_pos (by decide)]
    decide
  · show qof _ _ _ 23 ≤ 20 * (t + 1)
    rw [qof_e (by decide)]
    unfold bgQ bgL
    have hn := hK.1
    rw [if_neg (by decide), if_neg (by decide), if_neg (by omega), if_neg (by omega), if_neg (by omega), if_pos (by decide)]
    omega
  · have : j < 0 := h2
    omega
theorem op_text_no (hB : Bsh X.2.2.1) (hB2 : X.2.2.1.length ≤ 1000000) (hfv : X.2.1 = .null ∨ X.2.1 = .ref (aK + 9)) (hI : InvA X m A t) (ht : t + 1 ≤ 1000) {x : Int} (hx : R3 x) (hno : ¬ (x = 1 ∧ (abW A).length < 4 ∧ (lwP (abT A) (abS A) 241 0 []).1 = true)) : ∃ A', AOk A' (t + 1) ∧ Bth X A' t (V_text X (d + 60) x) (M_text X (d + 60) x) m := by
  have hT := hI.2.2.tok
  have hn := hT.1
  have hA1 := hI.2.2.up ht
  have hL : LsOk (abW A) := hI.2.2.2.2.2.2.2.2.2.2.1
  have hpC : TpC (abT A) (abS A) m := hI.1.1
  obtain ⟨c, c2, b1, b2, b3, b4, b5, b6, b7, b8⟩ := hI.1.2.1
  have e04 : m 0 4 = (abW A).length := hI.1.2.2.1.1
  have hl4 := hL.1
  by_cases z0 : x = 0
  · obtain ⟨r, hr⟩ : ∃ r, r = cnP (abT A) (abS A) 241 0 (cs0 (m 94) (m 95) (m 96) (m 97)) := ⟨_, rfl⟩
    have hrr := cnP_r hT 241 0 (cs0 (m 94) (m 95) (m 96) (m 97)) (by decide) hn.1 (cs0_ok _ _ _ _)
    rw [← hr] at hrr
    by_cases hg : r.1 = true ∧ whP r.2.2
    · -- taken
      obtain ⟨hg1, hg2⟩ := hg
      obtain ⟨hok, -⟩ := hrr.2 hg1
      have hK := Kof_ok (r := kR (abK A)) (b := kB (abK A)) hok hg2
      have hBk := Bof_ok (r := kR (abK A)) (b := kB (abK A)) (p := abB A) hok
      have o4 := hok.2.2.2.1
      refine ⟨AofC A r.2.2, AofC_ok hI.2.2 ht hok hg2, bth_of2 (F := csNm r.2.2) hI (fun Q h => ?_) (fun m1 Q hhi hM h => ?_)⟩
      · refine V_text_w hB hx (fun _ => ⟨c2, b2, b5, R_read_c (d := d + 52) (R := m 94) (B := m 95) (I := m 96) (M := m 97) hB hB2 hfv hT b2 hpC (fun r' m1 hr' hf => ?_)⟩) (fun q => by omega) (fun q => absurd z0 q)
        rw [← hr] at hr'
        rw [hr']
        refine ⟨(fun e => by rw [hg1] at e; cases e), fun _ _ hS => ⟨by decide, fun _ => ?_, fun q => absurd rfl q⟩, fun _ q => absurd hg2 q⟩
        have f : ∀ a, a ∉ drL c2 → m1 a = m a := fun a ha => hf a ha
        have g0 : m1 0 = m 0 := f 0 (by simp; omega)
        refine V_takeCanton_w (c := c) (c2 := c2) hB b1 b2 (by rw [g0]; exact b4) (by rw [g0]; exact b5) ?_
        obtain ⟨m2, hm2⟩ : ∃ m2, m2 = up (up (up m1 0 7 (c : Int)) 0 6 (c2 : Int)) 18 0 (c2 : Int) := ⟨_, rfl⟩
        rw [← hm2]
        have g2 : ∀ a, a ≠ 0 → a ≠ 18 → m2 a = m1 a := fun a h1 h2 => by rw [hm2, up_off h2, up_off h1, up_off h1]
        obtain ⟨S1, S2, S3, S4, S5, S6, S7, S8⟩ := hS
        have hck : Ck m2 c2 (Kof r.2.2 (kR (abK A)) (kB (abK A))) := by
          refine ⟨?_, ?_, ?_, fun j h1 h2 => ?_, fun j h1 h2 => ?_⟩
          · rw [g2 c2 (by omega) (by omega)]; exact S2
          · rw [g2 c2 (by omega) (by omega)]; exact S4
          · rw [g2 c2 (by omega) (by omega)]; exact S6
          · rw [g2 (c2 + 1) (by omega) (by omega), S1 j h1 h2]
            show csR r.2.2 j = pvF _ 0 5 _ j
            rw [pv_in (by omega), show j - 0 = j by omega]
          · have o2 := hok.2.1
            have h2' : j < 4 * csNb r.2.2 := h2
            rw [g2 (c2 + 2) (by omega) (by omega), S3 j h1 h2']
            show csB r.2.2 j = pvF _ 0 24 _ j
            rw [pv_in (by omega), show j - 0 = j by omega]
        have hmb : ∀ j, 0 ≤ j → j < 4 * kNm (Kof r.2.2 (kR (abK A)) (kB (abK A))) → m2 (c2 + 3) j = Bof r.2.2 (abB A) j := by
          intro j h1 h2
          have h2' : j < 4 * csNm r.2.2 := h2
          rw [g2 (c2 + 3) (by omega) (by omega), S5 j h1 h2']
          show csM r.2.2 j = pvF _ 0 24 _ j
          rw [pv_in (by omega), show j - 0 = j by omega]
        refine T_begin_c (d := d + 57) (p := abQ A) hB b2 (Or.inl rfl) (by show 0 ≤ csNm r.2.2 ∧ csNm r.2.2 ≤ 6; exact o4) hBk hck hmb (fun m3 y1 y2 y3 => H_forgetw hB ⟨?_, ?_⟩)
        · rw [up_off (by decide), up_off (by decide), y3 0 (by decide), hm2, up_off (by decide), up_same]
        · have e4 : (up (up m3 21 0 0) 21 1 0) c2 4 = csNm r.2.2 := by rw [up_off (by omega), up_off (by omega), y3 c2 (by simp; omega), g2 c2 (by omega) (by omega)]; exact S4
          rw [e4]
          obtain ⟨m4, hm4⟩ : ∃ m4, m4 = up (up (up (up m3 21 0 0) 21 1 0) 73 0 0) 1 1 0 := ⟨_, rfl⟩
          rw [← hm4]
          have q : ∀ a, a ≠ 21 → a ≠ 73 → a ≠ 1 → m4 a = m3 a := fun a h1 h2 h3 => by rw [hm4, up_off h3, up_off h2, up_off h1, up_off h1]
          have qq : ∀ a, a ≠ 21 → a ≠ 73 → a ≠ 1 → a ≠ 17 → a ≠ 0 → a ≠ 18 → a ∉ drL c2 → m4 a = m a := fun a h1 h2 h3 h4 h5 h6 h7 => by rw [q a h1 h2 h3, y3 a (by simp; exact h4), g2 a h5 h6]; exact f a h7
          have q0 : ∀ k, k ≠ 6 → k ≠ 7 → m4 0 k = m 0 k := fun k h1 h2 => by rw [q 0 (by decide) (by decide) (by decide), y3 0 (by decide), hm2, up_off (by decide), up_ne (Or.inr h1), up_ne (Or.inr h2), g0]
          have q18 : ∀ k, k ≠ 0 → m4 18 k = m 18 k := fun k h1 => by rw [q 18 (by decide) (by decide) (by decide), y3 18 (by decide), hm2, up_ne (Or.inr h1), up_off (by decide), up_off (by decide), f 18 (by simp; omega)]
          have q21 : ∀ k, k ≠ 0 → k ≠ 1 → m4 21 k = m 21 k := fun k h1 h2 => by rw [hm4, up_off (by decide), up_off (by decide), up_ne (Or.inr h2), up_ne (Or.inr h1), y3 21 (by decide), g2 21 (by decide) (by decide), f 21 (by simp; omega)]
          obtain ⟨a1, -, a3, a4, a5, a6, a7, a8, a9⟩ := hI.1
          refine h m4 ⟨⟨?_, fun j h1 h2 => ?_⟩, ⟨c2, c, b2, b1, fun e => b3 e.symm, ?_, ?_, ?_, ?_, fun j h1 h2 => ?_⟩, ?_, ⟨?_, ⟨⟨?_, fun i h1 h2 => ?_⟩, ?_, ?_, fun i h1 h2 => ?_⟩, ?_, Nat.zero_le _, ?_, fun j h1 h2 => ?_, fun i hi => absurd hi (Nat.not_lt_zero _), fun i j h1 h2 => ?_⟩, ?_, ?_, fun j h1 h2 => ?_, ?_, ?_, fun j h1 h2 => ?_⟩ (fun a ha => ?_)
          · rw [hm4, up_same]; rfl
          · have : j < 0 := h2
            omega
          · rw [q 0 (by decide) (by decide) (by decide), y3 0 (by decide), hm2, up_off (by decide), up_same]
          · rw [q 0 (by decide) (by decide) (by decide), y3 0 (by decide), hm2, up_off (by decide), up_ne (Or.inr (by decide)), up_same]
          · rw [q 18 (by decide) (by decide) (by decide), y3 18 (by decide), hm2, up_same]
          · exact hck.fr (by rw [q c2 (by omega) (by omega) (by omega)]; exact y3 c2 (by simp; omega)) (by rw [q (c2 + 1) (by omega) (by omega) (by omega)]; exact y3 _ (by simp; omega)) (by rw [q (c2 + 2) (by omega) (by omega) (by omega)]; exact y3 _ (by simp; omega))
          · rw [q (c2 + 3) (by omega) (by omega) (by omega), y3 (c2 + 3) (by simp; omega)]; exact hmb j h1 h2
          · exact a3.cg (q0 4 (by decide) (by decide)) (q0 5 (by decide) (by decide)) (q18 1 (by decide)) (qq 8 (by decide) (by decide) (by decide) (by decide) (by decide) (by decide) (by simp; omega)) (fun a ha => qq a (by omega) (by omega) (by omega) (by omega) (by omega) (by omega) (by simp; omega))
          · rw [q 17 (by decide) (by decide) (by decide)]
            exact qof_sr (by show csNm r.2.2 ≤ 6; omega) y1
          · show (0 : Int) ≤ 0 ∧ (0 : Int) ≤ 60
            decide
          · have h2' : i < 0 := h2
            omega
          · rw [q 17 (by decide) (by decide) (by decide), y2]; decide
          · rw [q 17 (by decide) (by decide) (by decide), y2]
            show (0 : Int) = min 0 60
            decide
          · have h2' : i < 0 := h2
            omega
          · rw [hm4, up_off (by decide), up_off (by decide), up_ne (Or.inr (by decide)), up_same]; rfl
          · rw [q21 4 (by decide) (by decide)]; exact a4.2.2.2.2.1
          · rw [qq 23 (by decide) (by decide) (by decide) (by decide) (by decide) (by decide) (by simp; omega)]; exact a4.2.2.2.2.2.1 j h1 h2
          · have h2' : j ≤ 0 := h2
            have ei : i = 0 := by omega
            have ej : j = 0 := by omega
            subst ei
            subst ej
            rw [Int.sub_self]
            show (0 : Int) ≤ 0 ∧ 0 + (if 0 < 0 ∧ 0 = 0 then (0 : Int) else 0) ≤ 20 * (((0 : Nat) : Int) - ((0 : Nat) : Int))
            exact ⟨Int.le_refl _, by simp⟩
          · show m4 21 1 = 0
            rw [hm4, up_off (by decide), up_off (by decide), up_same]
          · have e10 : m4 17 10 = 0 := by rw [q 17 (by decide) (by decide) (by decide)]; exact y2
            have h0 := hI.2.2.1
            rw [e10]; omega
          · rw [qq 82 (by decide) (by decide) (by decide) (by decide) (by decide) (by decide) (by simp; omega)]; exact a7 j h1 h2
          · rw [q0 14 (by decide) (by decide)]; exact a8
          · rw [hm4, up_off (by decide), up_same]; rfl
          · have : j < 0 := h2
            omega
          · exact qq a (by omega) (by omega) (by omega) (by omega) (by omega) (by omega) (by simp; omega)
      · refine M_textw hB ⟨hx, fun q => absurd z0 q, fun _ => M_readCanton_c (d := d + 52) hB hT hM.1 (fun r' m2 hr' hf => ?_)⟩
        rw [hhi 94 (by decide), hhi 95 (by decide), hhi 96 (by decide), hhi 97 (by decide), ← hr] at hr'
        rw [hr']
        refine ⟨(fun e => by rw [hg1] at e; cases e), fun _ _ hS => ⟨by decide, fun q => absurd rfl q, fun _ => ?_⟩, fun _ q => absurd hg2 q⟩
        obtain ⟨c1, c2', c3, c4, c5, c6, c7, c8, c9⟩ := hM
        have k98 : m2 98 = kR (abK A) := by rw [hf.1 98 (by decide), ← c2']; rfl
        have k99 : m2 99 = kB (abK A) := by rw [hf.1 99 (by decide), ← c2']; rfl
        have k100 : m2 100 = abB A := by rw [hf.1 100 (by decide)]; exact c3
        have k101 : m2 101 = abQ A := by rw [hf.1 101 (by decide)]; exact c5.1
        have hS' : MSt (up m2 83 2 0) r.2.2 := by
          obtain ⟨S1, S2, S3, S4, S5, S6, S7⟩ := hS
          exact ⟨by rw [up_off (by decide)]; exact S1, by rw [up_off (by decide)]; exact S2, by rw [up_off (by decide)]; exact S3, by rw [up_off (by decide)]; exact S4, by rw [up_ne (Or.inr (by decide))]; exact S5, by rw [up_ne (Or.inr (by decide))]; exact S6, by rw [up_ne (Or.inr (by decide))]; exact S7⟩
        refine M_take_c (d := d + 57) hB hS' hok (fun m3 e98 e99 e100 e27 e28 e29 e101 e48 e36 e52 hfr hk => ?_)
        rw [up_off (by decide)] at e98 e99 e100 e101
        rw [up_off (by decide), up_off (by decide), up_off (by decide)] at e101
        rw [k98] at e98
        rw [k99] at e99
        rw [k100] at e100
        rw [k98, k99, k100, k101] at e101
        have w : ∀ a, a ≠ 83 → a ≠ 94 → a ≠ 95 → a ≠ 96 → a ≠ 97 → a ≠ 98 → a ≠ 99 → a ≠ 100 → a ≠ 101 → m3 a = m1 a := fun a h1 h2 h3 h4 h5 h6 h7 h8 h9 => by rw [hfr a (by simp; omega), up_off h1]; exact hf.1 a (by simp; omega)
        have wk : ∀ k, (k = 13 ∨ k = 32 ∨ k = 33) → m3 83 k = m1 83 k := fun k hkk => by rw [hk k (by omega) (by omega) (by omega) (by omega) (by omega) (by omega), up_ne (Or.inr (by omega))]; exact hf.2 k (by omega) (by omega) (by omega) (by omega) (by omega)
        refine h m3 ⟨⟨?_, fun j h1 h2 => ?_⟩, ?_, e100, ?_, ⟨e101, ?_, Nat.zero_le _, fun i hi => absurd hi (Nat.not_lt_zero _)⟩, ?_, fun j h1 h2 => ?_, ?_, ?_, fun j h1 h2 => ?_⟩ (fun a ha => ?_)
        · rw [hk 2 (by decide) (by decide) (by decide) (by decide) (by decide) (by decide), up_same]; rfl
        · have : j < 0 := h2
          omega
        · unfold kM
          rw [e98, e99, e27, e28, e29]; rfl
        · exact c4.cg (wk 13 (by omega)) (wk 32 (by omega)) (fun a x y => w a (by omega) (by omega) (by omega) (by omega) (by omega) (by omega) (by omega) (by omega) (by omega))
        · rw [e36]; rfl
        · show m3 83 52 = 0
          exact e52
        · rw [w 102 (by decide) (by decide) (by decide) (by decide) (by decide) (by decide) (by decide) (by decide) (by decide)]; exact c7 j h1 h2
        · rw [wk 33 (by omega)]; exact c8
        · exact e48
        · have : j < 0 := h2
          omega
        · exact w a (by omega) (by omega) (by omega) (by omega) (by omega) (by omega) (by omega) (by omega) (by omega)
    · -- a fault
      refine ⟨A, hA1, bth_of2 (F := -1) hI (fun Q h => ?_) (fun m1 Q hhi hM h => ?_)⟩
      · have fin : ∀ m', Fr (drL c2) m m' → Q (-1) m' := fun m' hf => h m' (hI.1.up.scr b5 (hf.wd (by simp))) (fun a ha => hf a (by simp; omega))
        refine V_text_w hB hx (fun _ => ⟨c2, b2, b5, R_read_c (d := d + 52) (R := m 94) (B := m 95) (I := m 96) (M := m 97) hB hB2 hfv hT b2 hpC (fun r' m' hr' hf => ?_)⟩) (fun q => by omega) (fun q => absurd z0 q)
        rw [← hr] at hr'
        rw [hr']
        exact ⟨fun _ => ⟨⟨by omega, by omega⟩, fun q => by omega, fun _ => fin m' hf⟩, fun e w _ => absurd ⟨e, w⟩ hg, fun _ _ => ⟨⟨by omega, by omega⟩, fun q => by omega, fun _ => fin m' hf⟩⟩
      · have fin : ∀ m', FrQ m1 m' → Q (-1) m' := fun m' hf => h m' (hM.frQ hL hf) hf.lo
        refine M_textw hB ⟨hx, fun q => absurd z0 q, fun _ => M_readCanton_c (d := d + 52) hB hT hM.1 (fun r' m' hr' hf => ?_)⟩
        rw [hhi 94 (by decide), hhi 95 (by decide), hhi 96 (by decide), hhi 97 (by decide), ← hr] at hr'
        rw [hr']
        have out : M_text_22 X (d + 60) x m' Q := M_text_22w hB ⟨hx, fun _ => fin m' hf, fun q => by omega⟩
        exact ⟨fun _ => ⟨by omega, fun _ => out, fun q => by omega⟩, fun e w _ => absurd ⟨e, w⟩ hg, fun _ _ => ⟨by omega, fun _ => out, fun q => by omega⟩⟩
  · refine ⟨A, hA1, bth_of (F := -1) hI (fun Q h => ?_) (fun m1 Q hM h => ?_)⟩
    · refine V_text_w hB hx (fun q => absurd q z0) (fun z1 => ⟨⟨by omega, by omega⟩, fun _ => h m hI.1.up (fun _ _ => rfl), fun zl => P_read_c (d := d + 27) hB hB2 hT hpC (fun m' hf _ => ?_)⟩) (fun _ _ => h m hI.1.up (fun _ _ => rfl))
      have hb : ¬ (lwP (abT A) (abS A) 241 0 []).1 = true := fun e => hno ⟨z1, by omega, e⟩
      have hrr := (lwP_r (T := abT A) (n := abS A) 241 0 [] (by decide) hn.1 ⟨fun c hc => by simp at hc, Int.le_refl _, Int.le_refl _⟩).1
      rw [if_neg hb]
      exact ⟨⟨by omega, by omega⟩, by omega, h m' (hI.1.up.scr b5 (hf.wd (by simp))) (fun a ha => hf a (by simp; omega))⟩
    · have e13 : m1 83 13 = (abW A).length := hM.2.2.2.1.1
      refine M_textw hB ⟨hx, fun _ => M_text_22w hB ⟨hx, fun _ => h m1 hM (fun _ _ => rfl), fun z1 => ⟨by omega, fun _ => h m1 hM (fun _ _ => rfl), fun zl => ?_⟩⟩, fun q => absurd q z0⟩
      have hb : ¬ (lwP (abT A) (abS A) 241 0 []).1 = true := fun e => hno ⟨z1, by omega, e⟩
      have hrr := (lwP_r (T := abT A) (n := abS A) 241 0 [] (by decide) hn.1 ⟨fun c hc => by simp at hc, Int.le_refl _, Int.le_refl _⟩).1
      refine M_readLaw_c (d := d + 18) (tx := m1 83 13) hB hT (by omega) hM.1 (fun m' hf _ => ?_)
      rw [if_neg hb]
      exact ⟨by omega, fun _ => h m' (hM.frT hL hf (by omega)) hf.lo, fun q => by omega⟩
end Text
