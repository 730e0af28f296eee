/-! ===== the reference's law; both ===== -/
theorem cnt_ab {nm x : Int} (hn : 1 ≤ nm ∧ nm ≤ 6) (hx : 0 ≤ x ∧ x < pw nm) : cnt (pw nm - 1 - x) = nm - cnt x := by
  obtain ⟨a, rfl⟩ : ∃ a : Nat, nm = (a : Int) := ⟨nm.toNat, by omega⟩
  obtain ⟨b, rfl⟩ : ∃ b : Nat, x = (b : Int) := ⟨x.toNat, by omega⟩
  have h6 := pw_le hn
  exact (by decide +kernel : ∀ a : Nat, a ≤ 6 → ∀ b : Nat, b < 64 → (b : Int) < pw a → cnt (pw (a : Int) - 1 - (b : Int)) = (a : Int) - cnt (b : Int)) a (by omega) b (by omega) hx.2
theorem ltr_of {f : Int → Int} {a b c e g h : Int} (h0 : f 0 = a) (h1 : f 1 = b) (h2 : f 2 = c) (h3 : f 3 = e) (h4 : f 4 = g) (h5 : f 5 = h) : ∀ j, 0 ≤ j → j < 6 → f j = ltr a b c e g h j := by
  intro j hj hj2
  have : j = 0 ∨ j = 1 ∨ j = 2 ∨ j = 3 ∨ j = 4 ∨ j = 5 := by omega
  rcases this with rfl | rfl | rfl | rfl | rfl | rfl
  · exact h0
  · exact h1
  · exact h2
  · exact h3
  · exact h4
  · exact h5
theorem ltr_r {a b c e g h : Int} (h0 : -1000000 ≤ a ∧ a ≤ 1000000) (h1 : -1000000 ≤ b ∧ b ≤ 1000000) (h2 : -1000000 ≤ c ∧ c ≤ 1000000) (h3 : -1000000 ≤ e ∧ e ≤ 1000000) (h4 : -1000000 ≤ g ∧ g ≤ 1000000) (h5 : -1000000 ≤ h ∧ h ≤ 1000000) : ∀ j, 0 ≤ j → j < 6 → -1000000 ≤ ltr a b c e g h j ∧ ltr a b c e g h j ≤ 1000000 := by
  intro j _ _
  unfold ltr
  repeat' split
  all_goals assumption
section HL3
variable {X : Cx} {d : Nat} {m : Mm} {Q : Int → Mm → Prop}
theorem law_c (hB : Bsh X.2.2.1) {Ls : List Lw} {hd : Int} (hLs : LsOk Ls) (hC : CLaw X m Ls hd) : PC X.1 X.2.1 X.2.2.1 X.2.2.2 m (curPf Ls hd) := by
  intro d m' s K wt q k hl hs hS hK hQ hW h1 h2
  show S_pushOf X (d + 5) s k m' _
  have hsO : sO s := by omega
  have hn := hK.1
  obtain ⟨S1, S2, S3, S4, S5, S6, S7⟩ := hS
  obtain ⟨w1, w2, w3, w4⟩ := S1 k h1 h2
  have hwt := hW k h1 h2
  obtain ⟨-, c2, c3, c4, c5⟩ := hC
  rcases c3 with c3 | c3
  · have e18 : m' 18 1 = -1 := by rw [hl.1, c4, if_pos (by omega)]
    refine S_pushOfw hB hsO (Or.inl ⟨by omega, T_weightOf_c hB hsO ⟨?_, Fr.rf _ _⟩⟩)
    unfold pushA curPf
    rw [if_pos (by omega), w1]
  · have e18 : m' 18 1 = m 8 hd := by rw [hl.1, c4, if_neg (by omega)]
    have hlt : hd.toNat < Ls.length := by omega
    have ehd : ((hd.toNat : Nat) : Int) = hd := by omega
    have hcl := c5 hd.toNat hlt
    rw [ehd] at hcl
    obtain ⟨l, a, ln, b1, b2, b3, b4, b5, b6, b7, b8⟩ := hcl
    obtain ⟨L, hL⟩ : ∃ L, L = lw Ls hd.toNat := ⟨_, rfl⟩
    rw [← hL] at b7 b8
    have hLok : LwOk L := hLs.2 L (by
      rw [hL]
      unfold lw
      rw [List.getD_eq_getElem?_getD, List.getElem?_eq_getElem hlt]
      exact List.getElem_mem hlt)
    have hq := hQ.1 k h1 h2
    have hfal := hQ.2.1
    have hpw := pw_le hn
    have hcn := cnt_r (q 18)
    have ecn : cnt (m' s 4) = kNm K - cnt (q 18) := by rw [S2]; exact cnt_ab hn hfal
    have ne : ∀ i, i ≤ 20 → a ≠ i := fun i hi => by omega
    have s19 : s ≠ 19 := by omega
    refine S_pushOfw hB hsO (Or.inr ⟨l, a, by rw [e18, b1], b4, T_weightOf_c hB hsO (T_heelsOf_c hB hsO (T_seatOf_c hB hsO (J_bitCount_c hB ?_ ?_)))⟩)
    · rw [up_ne (Or.inl s19), up_ne (Or.inl s19), S2]
      omega
    · have u : ∀ (m0 : Mm) (i v : Int) (j : Int), up m0 19 i v s j = m0 s j := fun _ _ _ _ => up_ne (Or.inl s19)
      simp only [u]
      rw [ecn, w1, w3, w4, S5, S6]
      obtain ⟨m1, hm1⟩ : ∃ m1, m1 = up (up (up (up (up (up m' 19 0 (wt k)) 19 1 (q (6 + k))) 19 2 (q (12 + k))) 19 3 (kNm K - cnt (q 18))) 19 4 (q 21)) 19 5 (q 22) := ⟨_, rfl⟩
      have hf : Fr [19] m' m1 := by rw [hm1]; exact ((((((Fr.rf _ _).up (by simp)).up (by simp)).up (by simp)).up (by simp)).up (by simp)).up (by simp)
      have hlet : ∀ j, 0 ≤ j → j < 6 → m1 19 j = ltr (wt k) (q (6 + k)) (q (12 + k)) (kNm K - cnt (q 18)) (q 21) (q 22) j := by
        refine ltr_of ?_ ?_ ?_ ?_ ?_ ?_
        · rw [hm1, up_ne (Or.inr (by decide)), up_ne (Or.inr (by decide)), up_ne (Or.inr (by decide)), up_ne (Or.inr (by decide)), up_ne (Or.inr (by decide)), up_same]
        · rw [hm1, up_ne (Or.inr (by decide)), up_ne (Or.inr (by decide)), up_ne (Or.inr (by decide)), up_ne (Or.inr (by decide)), up_same]
        · rw [hm1, up_ne (Or.inr (by decide)), up_ne (Or.inr (by decide)), up_ne (Or.inr (by decide)), up_same]
        · rw [hm1, up_ne (Or.inr (by decide)), up_ne (Or.inr (by decide)), up_same]
        · rw [hm1, up_ne (Or.inr (by decide)), up_same]
        · rw [hm1, up_same]
      rw [← hm1]
      have hrow := hQ.2.2.2.2.1
      have hcol := hQ.2.2.2.2.2
      have hk3 := hK.2.2.2.2.2.1
      have hk0 := hK.2.2.1
      have hat : At1 (m1 a) 0 (stpL L 0) := by
        refine At1.of (fun j hj => ?_)
        rw [hf a (by simp; omega), hl.2 a b3, Int.zero_add]
        exact b8 j (by omega)
      refine W_worthw hB b4 b5 (by omega) (W_law hB b4 b5 b6 b3 (ltr_r (by omega) (by omega) (by omega) (by omega) (by omega) (by omega)) L m1 0 none none none none hLok.1 (by decide) (by omega) hat hlet (fun m2 k0 k1 => ?_))
      have fin : Fr [19, 20] m' m2 := (hf.wd (by decide)).tr (k1.wd (by decide))
      have eP : pushA (kNm K) wt (curPf Ls hd) q k = max 0 (min 99 (evL (ltr (wt k) (q (6 + k)) (q (12 + k)) (kNm K - cnt (q 18)) (q 21) (q 22)) L)) := by
        unfold pushA curPf
        rw [if_neg (by omega), ← hL]
        rfl
      refine ⟨by omega, fun z => ⟨fun z2 => ⟨?_, fin⟩, fun z2 => ⟨?_, fin⟩⟩, fun z => ⟨?_, fin⟩⟩
      all_goals rw [eP]; omega
/-! the reference -/
theorem M_worked_c (hB : Bsh X.2.2.1) {c a b : Int} (ha : -1000000 ≤ a ∧ a ≤ 1000000) (hb : -1000000 ≤ b ∧ b ≤ 1000000) (hc : (2 ≤ c ∧ c ≤ 8) ∨ (c = 10 ∨ c = 11)) (h : Q (opv c a b) m) : M_worked X (d + 2) c a b m Q := by
  have hm := mul_r ha hb
  have hd := jDv_e ha hb
  have bd : ∀ v, (-10000000000000 ≤ v ∧ v ≤ 10000000000000) → bnd v = opv c a b → M_bounded X (d + 1) v m Q := by
    intro v h1 h2
    have e : max (-1000000) (min 1000000 v) = opv c a b := h2
    refine M_boundedw hB ⟨by omega, by omega, ?_⟩
    rw [e]
    exact h
  have z3 : ∀ x : Int, (if 0 < x then (1 : Int) else if x = 0 then 0 else -1) = 0 → x = 0 := by
    intro x z
    split at z
    · omega
    · split at z
      · assumption
      · omega
  have n3 : ∀ x : Int, (if 0 < x then (1 : Int) else if x = 0 then 0 else -1) ≠ 0 → x ≠ 0 := by
    intro x z e
    rw [e] at z
    exact z rfl
  have cmp : (if b < a then (1 : Int) else if a = b then 0 else -1) = 1 ∧ b < a ∨ (if b < a then (1 : Int) else if a = b then 0 else -1) = 0 ∧ a = b ∨ (if b < a then (1 : Int) else if a = b then 0 else -1) = -1 ∧ a < b := by
    by_cases e1 : b < a
    · left; exact ⟨if_pos e1, e1⟩
    · by_cases e2 : a = b
      · right; left; exact ⟨by rw [if_neg e1, if_pos e2], e2⟩
      · right; right; exact ⟨by rw [if_neg e1, if_neg e2], by omega⟩
  have cs : c = 2 ∨ c = 3 ∨ c = 4 ∨ c = 5 ∨ c = 6 ∨ c = 7 ∨ c = 8 ∨ c = 10 ∨ c = 11 := by omega
  rcases cs with rfl | rfl | rfl | rfl | rfl | rfl | rfl | rfl | rfl
  · exact M_workedw hB ⟨by decide, fun _ => bd _ (by omega) rfl, fun e => absurd e (by decide), fun e => absurd e (by decide), fun e => absurd e (by decide), fun e => absurd e (by decide), fun e => absurd e (by decide), fun e => absurd e (by decide), fun e => absurd e (by decide), fun e => absurd e (by decide), fun e => absurd rfl e.1⟩
  · exact M_workedw hB ⟨by decide, fun e => absurd e (by decide), fun _ => bd _ (by omega) rfl, fun e => absurd e (by decide), fun e => absurd e (by decide), fun e => absurd e (by decide), fun e => absurd e (by decide), fun e => absurd e (by decide), fun e => absurd e (by decide), fun e => absurd e (by decide), fun e => absurd rfl e.2.1⟩
  · exact M_workedw hB ⟨by decide, fun e => absurd e (by decide), fun e => absurd e (by decide), fun _ => bd _ (by omega) rfl, fun e => absurd e (by decide), fun e => absurd e (by decide), fun e => absurd e (by decide), fun e => absurd e (by decide), fun e => absurd e (by decide), fun e => absurd e (by decide), fun e => absurd rfl e.2.2.1⟩
  · have eo : opv 5 a b = if b = 0 then 0 else bnd (Int.tdiv a b) := rfl
    refine M_workedw hB ⟨by decide, fun e => absurd e (by decide), fun e => absurd e (by decide), fun e => absurd e (by decide), fun _ => ⟨by omega, fun z => ⟨ne64z hb (n3 b z), bd _ (by omega) ?_⟩, fun z => ?_⟩, fun e => absurd e (by decide), fun e => absurd e (by decide), fun e => absurd e (by decide), fun e => absurd e (by decide), fun e => absurd e (by decide), fun e => absurd rfl e.2.2.2.1⟩
    · rw [eo, if_neg (n3 b z), hd.1]
    · rw [eo, if_pos (z3 b z)] at h
      exact h
  · have eo : opv 6 a b = if a = b then 1 else 0 := rfl
    refine M_workedw hB ⟨by decide, fun e => absurd e (by decide), fun e => absurd e (by decide), fun e => absurd e (by decide), fun e => absurd e (by decide), fun _ => ⟨by omega, by omega, fun z => ?_, fun z => ?_⟩, fun e => absurd e (by decide), fun e => absurd e (by decide), fun e => absurd e (by decide), fun e => absurd e (by decide), fun e => absurd rfl e.2.2.2.2.1⟩
    · rw [eo, if_neg (by omega)] at h
      exact h
    · rw [eo, if_pos (by omega)] at h
      exact h
  · have eo : opv 7 a b = if a < b then 1 else 0 := rfl
    refine M_workedw hB ⟨by decide, fun e => absurd e (by decide), fun e => absurd e (by decide), fun e => absurd e (by decide), fun e => absurd e (by decide), fun e => absurd e (by decide), fun _ => ⟨by omega, by omega, fun z => ?_, fun z => ?_⟩, fun e => absurd e (by decide), fun e => absurd e (by decide), fun e => absurd e (by decide), fun e => absurd rfl e.2.2.2.2.2.1⟩
    · rw [eo, if_neg (by omega)] at h
      exact h
    · rw [eo, if_pos (by omega)] at h
      exact h
  · have eo : opv 8 a b = if b < a then 1 else 0 := rfl
    refine M_workedw hB ⟨by decide, fun e => absurd e (by decide), fun e => absurd e (by decide), fun e => absurd e (by decide), fun e => absurd e (by decide), fun e => absurd e (by decide), fun e => absurd e (by decide), fun _ => ⟨by omega, by omega, fun z => ?_, fun z => ?_⟩, fun e => absurd e (by decide), fun e => absurd e (by decide), fun e => absurd rfl e.2.2.2.2.2.2.1⟩
    · rw [eo, if_neg (by omega)] at h
      exact h
    · rw [eo, if_pos (by omega)] at h
      exact h
  · have eo : opv 10 a b = if a ≠ 0 ∧ b ≠ 0 then 1 else 0 := rfl
    refine M_workedw hB ⟨by decide, fun e => absurd e (by decide), fun e => absurd e (by decide), fun e => absurd e (by decide), fun e => absurd e (by decide), fun e => absurd e (by decide), fun e => absurd e (by decide), fun e => absurd e (by decide), fun e => absurd e (by decide), fun _ => ⟨by omega, fun z => ?_, fun z => ⟨by omega, fun z2 => ?_, fun z2 => ?_⟩⟩, fun e => absurd rfl e.2.2.2.2.2.2.2.2⟩
    · rw [eo, if_neg (by have := z3 a z; simp [this])] at h
      exact h
    · rw [eo, if_neg (by have := z3 b z2; simp [this])] at h
      exact h
    · rw [eo, if_pos ⟨n3 a z, n3 b z2⟩] at h
      exact h
  · have eo : opv 11 a b = if a ≠ 0 ∨ b ≠ 0 then 1 else 0 := rfl
    refine M_workedw hB ⟨by decide, fun e => absurd e (by decide), fun e => absurd e (by decide), fun e => absurd e (by decide), fun e => absurd e (by decide), fun e => absurd e (by decide), fun e => absurd e (by decide), fun e => absurd e (by decide), fun e => absurd e (by decide), fun e => absurd e (by decide), fun _ => ⟨by omega, fun z => ?_, fun z => ⟨by omega, fun z2 => ?_, fun z2 => ?_⟩⟩⟩
    · rw [eo, if_pos (Or.inl (n3 a z))] at h
      exact h
    · rw [eo, if_neg (by have := z3 b z2; have := z3 a z; simp [*])] at h
      exact h
    · rw [eo, if_pos (Or.inr (n3 b z2))] at h
      exact h
theorem M_run (hB : Bsh X.2.2.1) {lt : Int → Int} {x y z : Int} (hx : 0 ≤ x ∧ x < 4) (hlt : ∀ j, 0 ≤ j → j < 6 → -1000000 ≤ lt j ∧ lt j ≤ 1000000) : ∀ (c : Cd) (m : Mm) (ts : List Bool) (tb : Bool) (s : List Int) (l4 l5 : Int), tyC c ts = some [tb] → TyV ts s → StK (m 93) s → l4 = s.length → 520 * x ≤ l5 → l5 + c.length = 520 * x + z → z ≤ 500 → At2 (m 85) (m 86) l5 c → (∀ j, 0 ≤ j → j < 6 → m 92 j = lt j) → (∀ m', TyV [tb] [(evC lt c s).headD 0] → Fr [93] m m' → Q ((evC lt c s).headD 0) m') → M_workOut_12 X (d + 3) x y z l4 l5 m Q := by
  intro c
  induction c with
  | nil =>
    intro m ts tb s l4 l5 hty hs hst h4 h5 h6 hz hat hlet h
    have e : ts = [tb] := by simpa [tyC] using hty
    subst e
    match s, hs with
    | [v], hs =>
      have e0 : m 93 0 = v := by simpa using hst.1
      have hl5 : l5 = 520 * x + z := by simpa using h6
      refine M_workOut_12w hB ⟨by omega, by omega, fun _ => ?_, fun e => by omega⟩
      rw [e0]
      exact h m hs (Fr.rf _ _)
  | cons p c ih =>
    intro m ts tb s l4 l5 hty hs hst h4 h5 h6 hz hat hlet h
    obtain ⟨k, v⟩ := p
    have hlen : ((((k, v) :: c : Cd).length : Nat) : Int) = c.length + 1 := by simp
    rw [hlen] at h6
    have e85 : m 85 l5 = k := hat.1.1
    have e86 : m 86 l5 = v := hat.1.2
    have hat2 : At2 (m 85) (m 86) (l5 + 1) c := hat.2
    obtain ⟨hs20, hc⟩ := ty_cases hty hs
    have hnext : ∀ (m' : Mm) (ts1 : List Bool) (s1 : List Int), tyC c ts1 = some [tb] → TyV ts1 s1 → StK (m' 93) s1 → Fr [93] m m' → evC lt c s1 = evC lt ((k, v) :: c) s → M_workOut_12 X (d + 3) x y z s1.length (l5 + 1) m' Q := by
      intro m' ts1 s1 q1 q2 q3 q4 q5
      refine ih m' ts1 tb s1 s1.length (l5 + 1) q1 q2 q3 rfl (by omega) (by omega) hz (by rw [q4 85 (by decide), q4 86 (by decide)]; exact hat2) (by rw [q4 92 (by decide)]; exact hlet) (fun m2 w1 w2 => ?_)
      rw [q5] at w1 ⊢
      exact h m2 w1 (q4.tr w2)
    rcases hc with ⟨rfl, hv, hty2⟩ | ⟨rfl, hv, hty2⟩ | ⟨rfl, rfl, a, t, s', rfl, ha, ht, hty2⟩ | ⟨rfl, a, b, t, s', u, rfl, ht, hty2, ha, hb, hty3, hk⟩
    · refine M_workOut_12w hB ⟨by omega, by omega, fun e => by omega, fun _ => ⟨by omega, ?_⟩⟩
      rw [e85]
      refine ⟨by omega, fun _ => M_workOut_45w hB ⟨by omega, ?_⟩, fun e => absurd rfl e⟩
      rw [e85, e86]
      refine ⟨by decide, fun e => absurd rfl e, fun _ => ⟨by omega, ?_⟩⟩
      rw [h4]
      exact hnext _ _ (v :: s) hty2 ⟨by simp; omega, hs⟩ ⟨up_same _ _ _ _, hst.cg (fun j h1 h2 => up_ne (Or.inr (by omega)))⟩ ((Fr.rf _ _).up (by simp)) ev0.symm
    · refine M_workOut_12w hB ⟨by omega, by omega, fun e => by omega, fun _ => ⟨by omega, ?_⟩⟩
      rw [e85]
      refine ⟨by omega, fun e => absurd e (by decide), fun _ => ⟨fun e => absurd rfl e, fun _ => M_workOut_45w hB ⟨by omega, ?_⟩⟩⟩
      rw [e85, e86]
      refine ⟨by decide, fun _ => ⟨by omega, by omega, ?_⟩, fun e => absurd e (by decide)⟩
      rw [h4, hlet v (by omega) (by omega)]
      exact hnext _ _ (lt v :: s) hty2 ⟨by simpa using hlt v (by omega) (by omega), hs⟩ ⟨up_same _ _ _ _, hst.cg (fun j h1 h2 => up_ne (Or.inr (by omega)))⟩ ((Fr.rf _ _).up (by simp)) ev1.symm
    · have hl4 : l4 = (s'.length : Int) + 1 := by rw [h4]; simp
      have hl20 : s'.length + 1 < 20 := by simpa using hs20
      have e41 : l4 - 1 = s'.length := by omega
      refine M_workOut_12w hB ⟨by omega, by omega, fun e => by omega, fun _ => ⟨by omega, ?_⟩⟩
      rw [e85]
      refine ⟨by omega, fun e => absurd e (by decide), fun _ => ⟨fun _ => ⟨fun e => absurd rfl e, fun _ => ⟨by omega, ?_⟩⟩, fun e => absurd e (by decide)⟩⟩
      rw [e41, hst.1]
      have := hnext (up m 93 s'.length (-a + 1)) _ ((1 - a) :: s') hty2 ⟨by simp; omega, ht⟩ ⟨by rw [up_same]; omega, hst.2.cg (fun j h1 h2 => up_ne (Or.inr (by omega)))⟩ ((Fr.rf _ _).up (by simp)) ev9.symm
      have e2 : (((1 - a) :: s').length : Int) = l4 := by rw [hl4]; simp
      rw [e2] at this
      exact this
    · have hkk : k ≠ 0 ∧ k ≠ 1 ∧ k ≠ 9 := by omega
      have hl4 : l4 = (s'.length : Int) + 2 := by rw [h4]; simp; omega
      have hl20 : s'.length + 1 + 1 < 20 := by simpa using hs20
      have e41 : l4 - 1 = s'.length + 1 := by omega
      have e42 : l4 - 2 = s'.length := by omega
      have eb : m 93 (l4 - 1) = b := by rw [e41]; simpa using hst.1
      have ea : m 93 (l4 - 2) = a := by rw [e42]; exact hst.2.1
      refine M_workOut_12w hB ⟨by omega, by omega, fun e => by omega, fun _ => ⟨by omega, ?_⟩⟩
      rw [e85]
      refine ⟨by omega, fun e => absurd e hkk.1, fun _ => ⟨fun _ => ⟨fun _ => ?_, fun e => absurd e hkk.2.2⟩, fun e => absurd e hkk.2.1⟩⟩
      rw [ea, eb]
      refine ⟨by omega, by omega, by omega, by omega, M_worked_c hB ha hb (by omega) ?_⟩
      rw [e41, e42]
      have := hnext (up m 93 s'.length (opv k a b)) (u :: t) (opv k a b :: s') hty2 hty3 ⟨up_same _ _ _ _, hst.2.2.cg (fun j h1 h2 => up_ne (Or.inr (by omega)))⟩ ((Fr.rf _ _).up (by simp)) (evj hkk.1 hkk.2.1 hkk.2.2).symm
      have e2 : ((opv k a b :: s').length : Int) = s'.length + 1 := by simp
      rw [e2] at this
      exact this
theorem M_lawR (hB : Bsh X.2.2.1) {lt : Int → Int} {x : Int} (hx : 0 ≤ x ∧ x < 4) (hlt : ∀ j, 0 ≤ j → j < 6 → -1000000 ≤ lt j ∧ lt j ≤ 1000000) {N : Int} (hN : 0 ≤ N ∧ N ≤ 130) : ∀ (L : Lw) (m : Mm) (k o : Int), (∀ c ∈ L, clsOk c) → 0 ≤ k → k + L.length = N → 0 ≤ o → o + ((L.map fun c => c.1.length + c.2.length).sum : Nat) ≤ 500 → m 88 x = N → MlCl m x L k o → (∀ j, 0 ≤ j → j < 6 → m 92 j = lt j) → (∀ m', (-1000000 ≤ evL lt L ∧ evL lt L ≤ 1000000) → Fr [93] m m' → Q (evL lt L) m') → M_worthOf_6 X (d + 4) x (140 * x + k) m Q := by
  intro L
  induction L with
  | nil =>
    intro m k o hc hk hkN ho hsum h88 hM hlet h
    have e : k = N := by simpa using hkN
    exact M_worthOf_6w hB ⟨by omega, by omega, by omega, fun _ => h m (by show -1000000 ≤ (0 : Int) ∧ (0 : Int) ≤ 1000000; omega) (Fr.rf _ _), fun e => by omega⟩
  | cons p L ih =>
    intro m k o hc hk hkN ho hsum h88 hM hlet h
    obtain ⟨t, s⟩ := p
    have hcl := hc (t, s) (by simp)
    have hst : tyC s [] = some [false] := hcl.2
    have hlenL : ((((t, s) :: L : Lw).length : Nat) : Int) = L.length + 1 := by simp
    rw [hlenL] at hkN
    have hsum2 : o + (t.length + s.length : Nat) + ((L.map fun c => c.1.length + c.2.length).sum : Nat) ≤ 500 := by
      have e : (List.map (fun c : Cd × Cd => c.1.length + c.2.length) ((t, s) :: L)).sum = t.length + s.length + (L.map fun c => c.1.length + c.2.length).sum := by simp
      rw [e] at hsum
      omega
    obtain ⟨e89, e90, e91, hcod, hM2⟩ := hM
    have hat : At2 (m 85) (m 86) (520 * x + o) (t ++ s) := At2.of hcod
    obtain ⟨at1, at2⟩ := hat.ap
    have say : ∀ m1 : Mm, Fr [93] m m1 → (t = [] ∨ evT lt t ≠ 0) → M_worthOf_57 X (d + 4) x (140 * x + k) m1 Q := by
      intro m1 g1 g2
      refine M_worthOf_57w hB ⟨by omega, ?_⟩
      rw [g1 90 (by decide), g1 91 (by decide), e90, e91]
      have eL : evL lt ((t, s) :: L) = evT lt s := by
        conv => lhs; unfold evL
        rw [if_pos g2]
      rw [eL] at h
      refine M_workOutw hB (M_run hB hx hlt s m1 [] false [] 0 _ hst trivial trivial rfl (by omega) (by omega) (by omega) ?_ (by rw [g1 92 (by decide)]; exact hlet) (fun m2 w1 w2 => h m2 ?_ (g1.tr w2)))
      · rw [g1 85 (by decide), g1 86 (by decide)]
        have e : 520 * x + (o + (t.length : Int)) = 520 * x + o + t.length := by omega
        rw [e]
        exact at2
      · have := w1.1
        rw [if_neg (by decide)] at this
        exact this
    refine M_worthOf_6w hB ⟨by omega, by omega, by omega, fun e => by omega, fun _ => ⟨by omega, ?_⟩⟩
    rw [e89, e90]
    refine ⟨by omega, by omega, fun e => say m (Fr.rf _ _) (Or.inl (List.eq_nil_of_length_eq_zero (by omega))), fun e => ?_⟩
    have hne : t ≠ [] := by
      intro e2
      rw [e2] at e
      exact e (by simp)
    have htt : tyC t [] = some [true] := hcl.1.resolve_left hne
    refine M_workOutw hB (M_run hB hx hlt t m [] true [] 0 _ htt trivial trivial rfl (by omega) (by omega) (by omega) at1 hlet (fun m2 w1 w2 => ?_))
    have hv : (evC lt t []).headD 0 = 0 ∨ (evC lt t []).headD 0 = 1 := by simpa using w1.1
    have ev : evT lt t = (evC lt t []).headD 0 := rfl
    refine ⟨by omega, fun z => ?_, fun z => say m2 w2 (Or.inr (by rw [ev]; exact z))⟩
    have eL : evL lt ((t, s) :: L) = evL lt L := by
      conv => lhs; unfold evL
      rw [if_neg (by rw [ev, z]; simp [hne])]
    rw [eL] at h
    have e3 : 140 * x + k + 1 = 140 * x + (k + 1) := by omega
    rw [e3]
    exact ih m2 (k + 1) (o + t.length + s.length) (fun c hc' => hc c (by simp [hc'])) (by omega) (by omega) (by omega) (by omega) (by rw [w2 88 (by decide)]; exact h88) (MlCl.cg (fun a h1 h2 => w2 a (by simp; omega)) _ _ _ hM2) (by rw [w2 92 (by decide)]; exact hlet) (fun m' k0 k1 => h m' k0 (w2.tr k1))
theorem law_m (hB : Bsh X.2.2.1) {Ls : List Lw} {hd : Int} (hLs : LsOk Ls) (hh : hd = -1 ∨ (0 ≤ hd ∧ hd < Ls.length)) (hM : MLaw m Ls hd) : PM X.1 X.2.1 X.2.2.1 X.2.2.2 m (curPf Ls hd) := by
  intro d m' k hl hK hQ hW h1 h2
  show M_pushOf X (d + 5) k m' _
  have e28 : m' 83 28 = kNm (kM m') := rfl
  have hn := hK.1
  rw [e28] at h2 ⊢
  have hwt := hW k h1 h2
  have ew : m' 100 (4 * k + 0) = wtM m' k := by unfold wtM; rw [Int.add_zero]
  obtain ⟨-, c2, c3⟩ := hM
  have e32 : m' 83 32 = hd := by rw [hl.1]; exact c2
  have hLn := hLs.1
  refine M_pushOfw hB (M_of_c hB (by omega) ?_)
  rw [ew, e32]
  refine ⟨by omega, fun z => ⟨by omega, by omega, ?_, Fr.rf _ _⟩, fun z => M_of_c hB (by omega) ?_⟩
  · unfold pushA curPf
    rw [if_pos (by omega)]
    omega
  · have hd0 : 0 ≤ hd ∧ hd < Ls.length := by omega
    have hq := hQ.1 k h1 h2
    have hfal := hQ.2.1
    have hpw := pw_le hn
    have hcn := cnt_r (m' 101 18)
    have e6 : k + 6 = 6 + k := by omega
    have e12 : k + 12 = 12 + k := by omega
    refine ⟨by omega, by omega, J_bitCount_c hB (by omega) ?_⟩
    have u : ∀ (m0 : Mm) (i v : Int) (a : Nat) (j : Int), a ≠ 92 → up m0 92 i v a j = m0 a j := fun _ _ _ _ _ h => up_ne (Or.inl h)
    rw [ew, e6, e12, u _ _ _ 83 _ (by decide), u _ _ _ 83 _ (by decide), u _ _ _ 83 _ (by decide), e32, u _ _ _ 101 _ (by decide), u _ _ _ 101 _ (by decide), u _ _ _ 101 _ (by decide), u _ _ _ 101 _ (by decide), u _ _ _ 101 _ (by decide), u _ _ _ 101 _ (by decide), e28]
    obtain ⟨m1, hm1⟩ : ∃ m1, m1 = up (up (up (up (up (up m' 92 0 (wtM m' k)) 92 1 (m' 101 (6 + k))) 92 2 (m' 101 (12 + k))) 92 3 (kNm (kM m') - cnt (m' 101 18))) 92 4 (m' 101 21)) 92 5 (m' 101 22) := ⟨_, rfl⟩
    have hf : Fr [92] m' m1 := by rw [hm1]; exact ((((((Fr.rf _ _).up (by simp)).up (by simp)).up (by simp)).up (by simp)).up (by simp)).up (by simp)
    have hlet : ∀ j, 0 ≤ j → j < 6 → m1 92 j = ltr (wtM m' k) (m' 101 (6 + k)) (m' 101 (12 + k)) (kNm (kM m') - cnt (m' 101 18)) (m' 101 21) (m' 101 22) j := by
      refine ltr_of ?_ ?_ ?_ ?_ ?_ ?_
      · rw [hm1, up_ne (Or.inr (by decide)), up_ne (Or.inr (by decide)), up_ne (Or.inr (by decide)), up_ne (Or.inr (by decide)), up_ne (Or.inr (by decide)), up_same]
      · rw [hm1, up_ne (Or.inr (by decide)), up_ne (Or.inr (by decide)), up_ne (Or.inr (by decide)), up_ne (Or.inr (by decide)), up_same]
      · rw [hm1, up_ne (Or.inr (by decide)), up_ne (Or.inr (by decide)), up_ne (Or.inr (by decide)), up_same]
      · rw [hm1, up_ne (Or.inr (by decide)), up_ne (Or.inr (by decide)), up_same]
      · rw [hm1, up_ne (Or.inr (by decide)), up_same]
      · rw [hm1, up_same]
    rw [← hm1]
    have hrow := hQ.2.2.2.2.1
    have hcol := hQ.2.2.2.2.2
    have hk3 := hK.2.2.2.2.2.1
    have hk0 := hK.2.2.1
    have hlt : hd.toNat < Ls.length := by omega
    have ehd : ((hd.toNat : Nat) : Int) = hd := by omega
    have hml := c3 hd.toNat hlt
    rw [ehd] at hml
    obtain ⟨L, hL⟩ : ∃ L, L = lw Ls hd.toNat := ⟨_, rfl⟩
    rw [← hL] at hml
    obtain ⟨l88, lcl⟩ := hml
    have hLok : LwOk L := hLs.2 L (by
      rw [hL]
      unfold lw
      rw [List.getD_eq_getElem?_getD, List.getElem?_eq_getElem hlt]
      exact List.getElem_mem hlt)
    have o85 : ∀ a, 85 ≤ a → a ≤ 91 → m1 a = m a := fun a x y => by rw [hf a (by simp; omega)]; exact hl.2 a x y
    have hL130 := hLok.2.1
    have hL500 := hLok.2.2
    refine M_worthOfw hB ?_
    rw [← Int.add_zero (140 * hd)]
    refine M_lawR (d := d) hB (x := hd) (by omega) (ltr_r (by omega) (by omega) (by omega) (by omega) (by omega) (by omega)) (N := L.length) (by omega) L m1 0 0 hLok.1 (by decide) (by omega) (by decide) (by omega) (by rw [o85 88 (by omega) (by omega)]; exact l88) (MlCl.cg o85 _ _ _ lcl) hlet (fun m2 k0 k1 => ?_)
    have fin : Fr [92, 93] m' m2 := (hf.wd (by decide)).tr (k1.wd (by decide))
    refine ⟨by omega, by omega, ?_, fin⟩
    unfold pushA curPf
    rw [if_neg (by omega), ← hL]
    rfl
end HL3
theorem hlaw : HLaw := ⟨fun _ _ _ _ hB hL hC => law_c hB hL hC, fun _ _ _ _ hB hL hh hM => law_m hB hL hh hM⟩
