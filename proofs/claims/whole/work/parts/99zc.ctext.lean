/-! ===== the text of a canton, read purely ===== -/
def mnK (kd : Int) : Int := if kd = 0 then 5 else if kd = 2 then 1 else 4
def mxK (kd : Int) : Int := gx xMOST_OF_KIND kd
def ftK (kd : Int) : Int := gx xFIRST kd
def usK (kd j : Int) : Int := gx xUSUAL (gx xFIRST kd + j)
def loK (kd j : Int) : Int := gx xLOW (gx xFIRST kd + j)
def hiK (kd j : Int) : Int := gx xHIGH (gx xFIRST kd + j)
def itO (kd c : Int) : Int := if kd = 0 then (if c = 119 then 0 else if c = 111 then 1 else if c = 103 then 2 else if c = 114 then 3 else if c = 121 then 4 else -1) else if kd = 1 then (if c = 114 then 0 else if c = 99 then 1 else if c = 107 then 2 else if c = 100 then 3 else -1) else if kd = 2 then (if c = 114 then 0 else -1) else (if c = 119 then 0 else if c = 108 then 1 else if c = 104 then 2 else if c = 115 then 3 else -1)
theorem itO_r {kd c : Int} : itO kd c = -1 ∨ (0 ≤ itO kd c ∧ itO kd c < mnK kd) := by
  unfold itO mnK
  by_cases h0 : kd = 0
  · rw [if_pos h0, if_pos h0]
    repeat' split
    all_goals omega
  · rw [if_neg h0, if_neg h0]
    by_cases h1 : kd = 1
    · rw [if_pos h1, show (if kd = 2 then (1 : Int) else 4) = 4 from if_neg (by omega)]
      repeat' split
      all_goals omega
    · rw [if_neg h1]
      by_cases h2 : kd = 2
      · rw [if_pos h2, if_pos h2]
        repeat' split
        all_goals omega
      · rw [if_neg h2, if_neg h2]
        repeat' split
        all_goals omega
theorem itO_no (kd : Int) : itO kd 0 = -1 ∧ itO kd 59 = -1 := by
  unfold itO
  constructor <;> (repeat' split) <;> first | rfl | omega
theorem tbK : ∀ kd : Nat, kd < 4 → ∀ j : Nat, j < 5 → (j : Int) < mnK kd → (loK kd j ≤ usK kd j ∧ usK kd j ≤ hiK kd j) ∧ (0 ≤ loK kd j ∧ hiK kd j ≤ 60) ∧ (0 ≤ ftK kd + j ∧ ftK kd + j < 14) := by decide
def isD (c : Int) : Prop := 48 ≤ c ∧ c ≤ 57
/-- one or two digits: read or not, where it stops, the number -/
def nC2 (T : Int → Int) (n a lo hi v : Int) : Bool × Int × Int := if 48 ≤ sgn T n a ∧ sgn T n a ≤ 57 then (false, a, v) else if v < lo ∨ hi < v then (false, a - 1, v) else (true, a, v)
def nC1 (T : Int → Int) (n b lo hi : Int) : Bool × Int × Int := if 48 ≤ sgn T n (b + 1) ∧ sgn T n (b + 1) ≤ 57 then nC2 T n (b + 2) lo hi (10 * sgn T n b + sgn T n (b + 1) - 528) else nC2 T n (b + 1) lo hi (sgn T n b - 48)
def nmC (T : Int → Int) (n a lo hi : Int) : Bool × Int × Int := if 48 ≤ sgn T n (sk T n a) ∧ sgn T n (sk T n a) ≤ 57 then nC1 T n (sk T n a) lo hi else (false, sk T n a, lo)
theorem nC2_r {T : Int → Int} {n a lo hi v : Int} (h : 0 < a) (ha : a ≤ n) : a - 1 ≤ (nC2 T n a lo hi v).2.1 ∧ (nC2 T n a lo hi v).2.1 ≤ n ∧ ((nC2 T n a lo hi v).1 = true → (nC2 T n a lo hi v).2.1 = a ∧ lo ≤ (nC2 T n a lo hi v).2.2 ∧ (nC2 T n a lo hi v).2.2 ≤ hi) := by
  unfold nC2
  by_cases z : 48 ≤ sgn T n a ∧ sgn T n a ≤ 57
  · rw [if_pos z]; exact ⟨by show a - 1 ≤ a; omega, ha, fun e => by cases e⟩
  · rw [if_neg z]
    by_cases z2 : v < lo ∨ hi < v
    · rw [if_pos z2]; exact ⟨Int.le_refl _, by show a - 1 ≤ n; omega, fun e => by cases e⟩
    · rw [if_neg z2]; exact ⟨by show a - 1 ≤ a; omega, ha, fun _ => ⟨rfl, by show lo ≤ v; omega, by show v ≤ hi; omega⟩⟩
theorem nmC_r {T : Int → Int} {n a lo hi : Int} (h0 : 0 ≤ a) (ha : a ≤ n) : a ≤ (nmC T n a lo hi).2.1 ∧ (nmC T n a lo hi).2.1 ≤ n ∧ ((nmC T n a lo hi).1 = true → a < (nmC T n a lo hi).2.1 ∧ lo ≤ (nmC T n a lo hi).2.2 ∧ (nmC T n a lo hi).2.2 ≤ hi) := by
  have hk := sk_ge T n a
  have hk2 := sk_le (T := T) ha
  unfold nmC
  by_cases z : 48 ≤ sgn T n (sk T n a) ∧ sgn T n (sk T n a) ≤ 57
  · have hz := sgn_nz (T := T) (n := n) (a := sk T n a) (by omega)
    rw [if_pos z]
    unfold nC1
    by_cases z2 : 48 ≤ sgn T n (sk T n a + 1) ∧ sgn T n (sk T n a + 1) ≤ 57
    · have hz2 := sgn_nz (T := T) (n := n) (a := sk T n a + 1) (by omega)
      rw [if_pos z2]
      obtain ⟨g1, g2, g3⟩ := nC2_r (T := T) (n := n) (a := sk T n a + 2) (lo := lo) (hi := hi) (v := 10 * sgn T n (sk T n a) + sgn T n (sk T n a + 1) - 528) (by omega) (by omega)
      exact ⟨by omega, g2, fun e => by have := g3 e; exact ⟨by omega, this.2⟩⟩
    · rw [if_neg z2]
      obtain ⟨g1, g2, g3⟩ := nC2_r (T := T) (n := n) (a := sk T n a + 1) (lo := lo) (hi := hi) (v := sgn T n (sk T n a) - 48) (by omega) (by omega)
      exact ⟨by omega, g2, fun e => by have := g3 e; exact ⟨by omega, this.2⟩⟩
  · rw [if_neg z]
    exact ⟨hk, hk2, fun e => by cases e⟩
/-- items: whether numbers were right; where it stops; the values -/
def itsP (T : Int → Int) (n kd : Int) : Nat → Int → Int → (Int → Int) → Bool × Int × (Int → Int)
  | 0, _, a, v => (false, a, v)
  | k + 1, tl, a, v => if itO kd (sgn T n (sk T n a)) = -1 ∨ bit tl (itO kd (sgn T n (sk T n a))) = 1 then (true, sk T n a, v) else if (nmC T n (sk T n a + 1) (loK kd (itO kd (sgn T n (sk T n a)))) (hiK kd (itO kd (sgn T n (sk T n a))))).1 = false then (false, (nmC T n (sk T n a + 1) (loK kd (itO kd (sgn T n (sk T n a)))) (hiK kd (itO kd (sgn T n (sk T n a))))).2.1, v) else itsP T n kd k (iO tl (iSl 1 (itO kd (sgn T n (sk T n a))))) (nmC T n (sk T n a + 1) (loK kd (itO kd (sgn T n (sk T n a)))) (hiK kd (itO kd (sgn T n (sk T n a))))).2.1 (fun j => if j = itO kd (sgn T n (sk T n a)) then (nmC T n (sk T n a + 1) (loK kd (itO kd (sgn T n (sk T n a)))) (hiK kd (itO kd (sgn T n (sk T n a))))).2.2 else v j)
def vOk (kd : Int) (v : Int → Int) : Prop := ∀ j, 0 ≤ j → j < mnK kd → loK kd j ≤ v j ∧ v j ≤ hiK kd j
theorem mnK_le (kd : Int) : mnK kd ≤ 5 := by
  unfold mnK
  repeat' split
  all_goals decide
theorem usK_ok {kd : Int} (h : 0 ≤ kd ∧ kd < 4) : vOk kd (usK kd) := by
  intro j h1 h2
  have h5 := mnK_le kd
  have := tbK kd.toNat (by omega) j.toNat (by omega) (by rw [show ((kd.toNat : Nat) : Int) = kd by omega, show ((j.toNat : Nat) : Int) = j by omega]; exact h2)
  rw [show ((kd.toNat : Nat) : Int) = kd by omega, show ((j.toNat : Nat) : Int) = j by omega] at this
  exact this.1
theorem itsP_r {T : Int → Int} {n kd : Int} : ∀ (k : Nat) (tl a : Int) (v : Int → Int), 0 ≤ a → a ≤ n → vOk kd v → a ≤ (itsP T n kd k tl a v).2.1 ∧ (itsP T n kd k tl a v).2.1 ≤ n ∧ ((itsP T n kd k tl a v).1 = true → vOk kd (itsP T n kd k tl a v).2.2 ∧ sk T n (itsP T n kd k tl a v).2.1 = (itsP T n kd k tl a v).2.1)
  | 0, tl, a, v, h0, h1, hv => ⟨Int.le_refl _, h1, fun e => by cases e⟩
  | k + 1, tl, a, v, h0, h1, hv => by
    have hk := sk_ge T n a
    have hk2 := sk_le (T := T) h1
    unfold itsP
    have hi := itO_r (kd := kd) (c := sgn T n (sk T n a))
    have hno := (itO_no kd).1
    have hlt : itO kd (sgn T n (sk T n a)) ≠ -1 → sk T n a < n := fun e => sgn_nz (T := T) (fun q => e (by rw [q]; exact hno))
    generalize itO kd (sgn T n (sk T n a)) = i at hi hlt
    by_cases z : i = -1 ∨ bit tl i = 1
    · rw [if_pos z]; exact ⟨hk, hk2, fun _ => ⟨hv, sk_sk T n a⟩⟩
    · rw [if_neg z]
      have hlt := hlt (fun e => z (Or.inl e))
      have hr := nmC_r (T := T) (n := n) (a := sk T n a + 1) (lo := loK kd i) (hi := hiK kd i) (by omega) (by omega)
      generalize nmC T n (sk T n a + 1) (loK kd i) (hiK kd i) = r at hr
      by_cases z2 : r.1 = false
      · rw [if_pos z2]; exact ⟨by show a ≤ r.2.1; omega, hr.2.1, fun e => by cases e⟩
      · rw [if_neg z2]
        have hr2 := hr.2.2 (by cases e : r.1 <;> simp_all)
        have := itsP_r (T := T) (n := n) (kd := kd) k (iO tl (iSl 1 i)) r.2.1 (fun j => if j = i then r.2.2 else v j) (by omega) hr.2.1 (fun j h2 h3 => by
          show loK kd j ≤ (if j = i then r.2.2 else v j) ∧ (if j = i then r.2.2 else v j) ≤ hiK kd j
          by_cases zj : j = i
          · rw [if_pos zj, zj]; exact hr2.2
          · rw [if_neg zj]; exact hv j h2 h3)
        exact ⟨by omega, this.2⟩
/-! clauses: (is there s; how many b, i, m), then the rules, b, i, m as told -/
abbrev Cs : Type := (Int × Int × Int × Int) × (Int → Int) × (Int → Int) × (Int → Int) × (Int → Int)
abbrev csS (s : Cs) := s.1.1
abbrev csNb (s : Cs) := s.1.2.1
abbrev csNi (s : Cs) := s.1.2.2.1
abbrev csNm (s : Cs) := s.1.2.2.2
abbrev csR (s : Cs) := s.2.1
abbrev csB (s : Cs) := s.2.2.1
abbrev csI (s : Cs) := s.2.2.2.1
abbrev csM (s : Cs) := s.2.2.2.2
def ctK (kd : Int) (s : Cs) : Int := if kd = 0 then csS s else if kd = 1 then csNb s else if kd = 2 then csNi s else csNm s
def pvF (base : Int → Int) (fr mn : Int) (v : Int → Int) : Int → Int := fun j => if fr ≤ j ∧ j < fr + mn then v (j - fr) else base j
def adK (kd : Int) (v : Int → Int) (s : Cs) : Cs := if kd = 0 then ((1, csNb s, csNi s, csNm s), pvF (csR s) 0 5 v, csB s, csI s, csM s) else if kd = 1 then ((csS s, csNb s + 1, csNi s, csNm s), csR s, pvF (csB s) (4 * csNb s) 4 v, csI s, csM s) else if kd = 2 then ((csS s, csNb s, csNi s + 1, csNm s), csR s, csB s, pvF (csI s) (csNi s) 1 v, csM s) else ((csS s, csNb s, csNi s, csNm s + 1), csR s, csB s, csI s, pvF (csM s) (4 * csNm s) 4 v)
/-- 1: the text ended; else a fault -/
def cnP (T : Int → Int) (n : Int) : Nat → Int → Cs → Bool × Int × Cs
  | 0, a, s => (false, a, s)
  | k + 1, a, s => if kdO (sgn T n (sk T n a)) = -1 ∨ mxK (kdO (sgn T n (sk T n a))) ≤ ctK (kdO (sgn T n (sk T n a))) s then (false, sk T n a, s) else
    if (itsP T n (kdO (sgn T n (sk T n a))) 241 0 (sk T n a + 1) (usK (kdO (sgn T n (sk T n a))))).1 = false then (false, (itsP T n (kdO (sgn T n (sk T n a))) 241 0 (sk T n a + 1) (usK (kdO (sgn T n (sk T n a))))).2.1, s) else
    if sgn T n (itsP T n (kdO (sgn T n (sk T n a))) 241 0 (sk T n a + 1) (usK (kdO (sgn T n (sk T n a))))).2.1 = 59 then cnP T n k ((itsP T n (kdO (sgn T n (sk T n a))) 241 0 (sk T n a + 1) (usK (kdO (sgn T n (sk T n a))))).2.1 + 1) (adK (kdO (sgn T n (sk T n a))) (itsP T n (kdO (sgn T n (sk T n a))) 241 0 (sk T n a + 1) (usK (kdO (sgn T n (sk T n a))))).2.2 s) else
    (decide (sgn T n (itsP T n (kdO (sgn T n (sk T n a))) 241 0 (sk T n a + 1) (usK (kdO (sgn T n (sk T n a))))).2.1 = 0), (itsP T n (kdO (sgn T n (sk T n a))) 241 0 (sk T n a + 1) (usK (kdO (sgn T n (sk T n a))))).2.1, adK (kdO (sgn T n (sk T n a))) (itsP T n (kdO (sgn T n (sk T n a))) 241 0 (sk T n a + 1) (usK (kdO (sgn T n (sk T n a))))).2.2 s)
/-- what is told, within bounds -/
def csOk (s : Cs) : Prop := (csS s = 0 ∨ csS s = 1) ∧ (0 ≤ csNb s ∧ csNb s ≤ 6) ∧ (0 ≤ csNi s ∧ csNi s ≤ 4) ∧ (0 ≤ csNm s ∧ csNm s ≤ 6) ∧ vOk 0 (csR s) ∧ (∀ b, 0 ≤ b → b < csNb s → ∀ j, 0 ≤ j → j < 4 → loK 1 j ≤ csB s (4 * b + j) ∧ csB s (4 * b + j) ≤ hiK 1 j) ∧ (∀ b, 0 ≤ b → b < csNi s → 0 ≤ csI s b ∧ csI s b ≤ 19) ∧ (∀ b, 0 ≤ b → b < csNm s → ∀ j, 0 ≤ j → j < 4 → loK 3 j ≤ csM s (4 * b + j) ∧ csM s (4 * b + j) ≤ hiK 3 j)
theorem kdO_r (c : Int) : kdO c = -1 ∨ (0 ≤ kdO c ∧ kdO c < 4) := by
  unfold kdO
  repeat' split
  all_goals omega
theorem mx4 : ∀ kd : Nat, kd < 4 → mxK kd = if kd = 0 then 1 else if kd = 2 then 4 else 6 := by decide
theorem adK_ok {kd : Int} {v : Int → Int} {s : Cs} (hkd : 0 ≤ kd ∧ kd < 4) (h : csOk s) (hv : vOk kd v) (hc : ctK kd s < mxK kd) : csOk (adK kd v s) := by
  obtain ⟨a1, a2, a3, a4, a5, a6, a7, a8⟩ := h
  have hm := mx4 kd.toNat (by omega)
  rw [show ((kd.toNat : Nat) : Int) = kd by omega] at hm
  rw [hm] at hc
  have h4 : kd = 0 ∨ kd = 1 ∨ kd = 2 ∨ kd = 3 := by omega
  rcases h4 with rfl | rfl | rfl | rfl
  · refine ⟨Or.inr rfl, a2, a3, a4, fun j h1 h2 => ?_, a6, a7, a8⟩
    show loK 0 j ≤ pvF (csR s) 0 5 v j ∧ pvF (csR s) 0 5 v j ≤ hiK 0 j
    have h5 : mnK 0 = 5 := rfl
    unfold pvF
    rw [if_pos (by omega), show j - 0 = j by omega]
    exact hv j h1 h2
  · have hc' : csNb s < 6 := hc
    refine ⟨a1, by show 0 ≤ csNb s + 1 ∧ csNb s + 1 ≤ 6; omega, a3, a4, a5, fun b h1 h2 j h3 h4 => ?_, a7, a8⟩
    have h2 : b < csNb s + 1 := h2
    show loK 1 j ≤ pvF (csB s) (4 * csNb s) 4 v (4 * b + j) ∧ pvF (csB s) (4 * csNb s) 4 v (4 * b + j) ≤ hiK 1 j
    unfold pvF
    by_cases z : b = csNb s
    · rw [if_pos (by omega), show 4 * b + j - 4 * csNb s = j by omega]
      exact hv j h3 h4
    · rw [if_neg (by omega)]
      exact a6 b h1 (by omega) j h3 h4
  · have hc' : csNi s < 4 := hc
    refine ⟨a1, a2, by show 0 ≤ csNi s + 1 ∧ csNi s + 1 ≤ 4; omega, a4, a5, a6, fun b h1 h2 => ?_, a8⟩
    have h2 : b < csNi s + 1 := h2
    show 0 ≤ pvF (csI s) (csNi s) 1 v b ∧ pvF (csI s) (csNi s) 1 v b ≤ 19
    unfold pvF
    by_cases z : b = csNi s
    · rw [if_pos (by omega), show b - csNi s = 0 by omega]
      exact hv 0 (by decide) (by decide)
    · rw [if_neg (by omega)]
      exact a7 b h1 (by omega)
  · have hc' : csNm s < 6 := hc
    refine ⟨a1, a2, a3, by show 0 ≤ csNm s + 1 ∧ csNm s + 1 ≤ 6; omega, a5, a6, a7, fun b h1 h2 j h3 h4 => ?_⟩
    have h2 : b < csNm s + 1 := h2
    show loK 3 j ≤ pvF (csM s) (4 * csNm s) 4 v (4 * b + j) ∧ pvF (csM s) (4 * csNm s) 4 v (4 * b + j) ≤ hiK 3 j
    unfold pvF
    by_cases z : b = csNm s
    · rw [if_pos (by omega), show 4 * b + j - 4 * csNm s = j by omega]
      exact hv j h3 h4
    · rw [if_neg (by omega)]
      exact a8 b h1 (by omega) j h3 h4
theorem cnP_r {T : Int → Int} {n : Int} (hT : TOk T n) : ∀ (k : Nat) (a : Int) (s : Cs), 0 ≤ a → a ≤ n → csOk s → (a ≤ (cnP T n k a s).2.1 ∧ (cnP T n k a s).2.1 ≤ n) ∧ ((cnP T n k a s).1 = true → csOk (cnP T n k a s).2.2 ∧ (cnP T n k a s).2.1 = n)
  | 0, a, s, h0, h1, hs => ⟨⟨Int.le_refl _, h1⟩, fun e => by cases e⟩
  | k + 1, a, s, h0, h1, hs => by
    have hk := sk_ge T n a
    have hk2 := sk_le (T := T) h1
    unfold cnP
    have hkd := kdO_r (sgn T n (sk T n a))
    have hlt : kdO (sgn T n (sk T n a)) ≠ -1 → sk T n a < n := fun e => sgn_nz (T := T) (fun q => e (by rw [q]; rfl))
    generalize kdO (sgn T n (sk T n a)) = kd at hkd hlt
    by_cases z : kd = -1 ∨ mxK kd ≤ ctK kd s
    · rw [if_pos z]; exact ⟨⟨hk, hk2⟩, fun e => by cases e⟩
    · rw [if_neg z]
      have hlt := hlt (fun e => z (Or.inl e))
      have hr := itsP_r (T := T) (n := n) (kd := kd) 241 0 (sk T n a + 1) (usK kd) (by omega) (by omega) (usK_ok (by omega))
      generalize itsP T n kd 241 0 (sk T n a + 1) (usK kd) = r at hr
      by_cases z2 : r.1 = false
      · rw [if_pos z2]; exact ⟨⟨by show a ≤ r.2.1; omega, hr.2.1⟩, fun e => by cases e⟩
      · rw [if_neg z2]
        have hr2 := hr.2.2 (by cases e : r.1 <;> simp_all)
        have hs' := adK_ok (v := r.2.2) (by omega) hs hr2.1 (by omega)
        by_cases z3 : sgn T n r.2.1 = 59
        · rw [if_pos z3]
          have hz := sgn_nz (T := T) (n := n) (a := r.2.1) (by omega)
          have := cnP_r hT k (r.2.1 + 1) _ (by omega) (by omega) hs'
          exact ⟨⟨by omega, this.1.2⟩, this.2⟩
        · rw [if_neg z3]
          refine ⟨⟨by show a ≤ r.2.1; omega, hr.2.1⟩, fun e => ⟨hs', ?_⟩⟩
          have e0 : sgn T n r.2.1 = 0 := of_decide_eq_true e
          show r.2.1 = n
          by_cases q : r.2.1 < n
          · have := hT.2 r.2.1 (by omega) q
            unfold sgn at e0
            rw [if_pos q] at e0
            omega
          · omega
