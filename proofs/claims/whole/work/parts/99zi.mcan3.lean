/-! ===== the reference reads a canton: the whole ===== -/
theorem kd_kc {c : Int} (h : kdO c ≠ -1) : kcO (kdO c) = c := by
  unfold kdO at h ⊢
  by_cases z1 : c = 115
  · rw [if_pos z1, z1]; rfl
  · rw [if_neg z1] at h ⊢
    by_cases z2 : c = 98
    · rw [if_pos z2, z2]; rfl
    · rw [if_neg z2] at h ⊢
      by_cases z3 : c = 105
      · rw [if_pos z3, z3]; rfl
      · rw [if_neg z3] at h ⊢
        by_cases z4 : c = 109
        · rw [if_pos z4, z4]; rfl
        · rw [if_neg z4] at h
          exact absurd rfl h
section MCan3
variable {X : Cx} {d : Nat} {m : Mm} {Q : Int → Mm → Prop} {T : Int → Int} {n : Int} {s : Cs}
/-- the end: what is behind the last clause -/
theorem M_can_209 (hB : Bsh X.2.2.1) (hT : TOk T n) {l1 l2 : Int} {o3 o4 : Option Int} (hm : TpM T n m) (ha : 0 ≤ m 83 3 ∧ m 83 3 ≤ n) (hw : -1 ≤ m 83 4 ∧ m 83 4 ≤ n) (hsk : m 83 4 = -1 → sk T n (m 83 3) = m 83 3) (hok : csOk s) (hS : m 83 4 = -1 → MSt m s)
    (h0 : m 83 4 ≠ -1 → Q (m 83 4) m) (h1 : m 83 4 = -1 → sgn T n (m 83 3) ≠ 0 → ∀ m', FrQ m m' → Q (m 83 3) m') (h2 : m 83 4 = -1 → sgn T n (m 83 3) = 0 → whP s → Q (-1) m) (h3 : m 83 4 = -1 → sgn T n (m 83 3) = 0 → ¬ whP s → ∀ m', FrQ m m' → Q (m 83 3) m') : M_readCanton_209 X (d + 2) l1 l2 o3 o4 m Q := by
  have hn := hT.1
  have hsM := sgM_c hT (a := m 83 3) ha.1
  refine M_readCanton_209w hB ⟨by omega, h0, fun z => M_look_c hB hT hm (by omega) ?_⟩
  rw [hsk z, up_id]
  refine ⟨by omega, fun z2 => M_bad_c hB z ?_, fun z2 => M_whole_c hB (hS z) hok (fun hw => ⟨by decide, fun _ => ?_, fun e => absurd e (by decide)⟩) (fun hw => ⟨by decide, fun e => absurd rfl e, fun _ => M_bad_c hB z ?_⟩)⟩
  · rw [up_same]
    exact h1 z (by omega) _ ((FrQ.rf m).u (Or.inr (Or.inl rfl)))
  · rw [z]
    exact h2 z (by omega) hw
  · rw [up_same]
    exact h3 z (by omega) hw _ ((FrQ.rf m).u (Or.inr (Or.inl rfl)))
theorem M_can_54 (hB : Bsh X.2.2.1) (hT : TOk T n) {m0 : Mm} : ∀ (k : Nat) (m : Mm) (s : Cs) (o3 o4 : Option Int), TpM T n m → m 83 4 = -1 → (0 ≤ m 83 3 ∧ m 83 3 ≤ n) → FrQ m0 m → MSt m s → csOk s → n - m 83 3 < k →
    (∀ r m', r = cnP T n k (m 83 3) s → FrQ m0 m' → (r.1 = false → Q r.2.1 m') ∧ (r.1 = true → whP r.2.2 → MSt m' r.2.2 → Q (-1) m') ∧ (r.1 = true → ¬ whP r.2.2 → Q n m')) → M_readCanton_54 X (d + 7) (csS s) 1 o3 o4 m Q := by
  have hn := hT.1
  intro k
  induction k with
  | zero => intro m s o3 o4 hm h4 ha hf hS hok hk h; omega
  | succ k ih =>
    intro m s o3 o4 hm h4 ha hf hS hok hk h
    have hk1 := sk_ge T n (m 83 3)
    have hk2 := sk_le (T := T) ha.2
    have hsM := sgM_c hT (a := sk T n (m 83 3)) (by omega)
    have hss : sk T n (sk T n (m 83 3)) = sk T n (m 83 3) := sk_sk _ _ _
    unfold cnP at h
    have hkr := kdO_r (sgn T n (sk T n (m 83 3)))
    have hkk : kdO (sgn T n (sk T n (m 83 3))) ≠ -1 → kcO (kdO (sgn T n (sk T n (m 83 3)))) = sgn T n (sk T n (m 83 3)) := kd_kc
    refine M_readCanton_54w hB ⟨by decide, fun e => absurd e (by decide), fun _ => ⟨by omega, fun zz => absurd h4 zz, fun _ => M_look_c hB hT hm (by omega) ?_⟩⟩
    have hek : sgn T n (sk T n (m 83 3)) = sgn T n (sk T n (m 83 3)) := rfl
    generalize hb : sk T n (m 83 3) = b at h hk1 hk2 hsM hss hkr hkk
    have e3 : (up m 83 3 b) 83 3 = b := up_same _ _ _ _
    have e4 : (up m 83 3 b) 83 4 = -1 := by rw [up_ne (Or.inr (by decide))]; exact h4
    have fu : FrQ m0 (up m 83 3 b) := hf.u (Or.inl rfl)
    have hSu : MSt (up m 83 3 b) s := by
      obtain ⟨S1, S2, S3, S4, S5, S6, S7⟩ := hS
      exact ⟨by rw [up_off (by decide)]; exact S1, by rw [up_off (by decide)]; exact S2, by rw [up_off (by decide)]; exact S3, by rw [up_off (by decide)]; exact S4, by rw [up_ne (Or.inr (by decide))]; exact S5, by rw [up_ne (Or.inr (by decide))]; exact S6, by rw [up_ne (Or.inr (by decide))]; exact S7⟩
    have hok0 := hok
    obtain ⟨o1, o2, o3', o4', -⟩ := hok
    have u21 : (up m 83 3 b) 83 21 = csNb s := hSu.2.2.2.2.1
    have u22 : (up m 83 3 b) 83 22 = csNi s := hSu.2.2.2.2.2.1
    have u23 : (up m 83 3 b) 83 23 = csNm s := hSu.2.2.2.2.2.2
    -- no such clause may stand here
    have no : (kdO (sgn T n b) = -1 ∨ mxK (kdO (sgn T n b)) ≤ ctK (kdO (sgn T n b)) s) → ∀ l3 o4'', M_readCanton_129 X (d + 7) (csS s) 1 l3 o4'' (up m 83 3 b) Q := by
      intro hst l3 o4''
      rw [if_pos hst] at h
      refine M_readCanton_129w hB (M_bad_c hB e4 ?_)
      rw [e3]
      obtain ⟨m2, hm2⟩ : ∃ m2, m2 = up (up m 83 3 b) 83 4 b := ⟨_, rfl⟩
      rw [← hm2]
      have g4 : m2 83 4 = b := by rw [hm2, up_same]
      have g3 : m2 83 3 = b := by rw [hm2, up_ne (Or.inr (by decide))]; exact e3
      have fm : FrQ m0 m2 := by rw [hm2]; exact fu.u (Or.inr (Or.inl rfl))
      refine M_readCanton_165w hB ⟨by omega, fun _ => M_readCanton_186w hB ?_, fun zz => by omega⟩
      rw [up_id]
      refine M_readCanton_54w hB ⟨by decide, fun _ => ?_, fun e => absurd rfl e⟩
      refine M_can_209 (d := d + 5) hB hT (hm.q (by rw [hm2]; exact ((FrQ.rf m).u (Or.inl rfl)).u (Or.inr (Or.inl rfl)))) (by omega) (by omega) (fun e => by omega) (s := s) hok0 (fun e => by omega) (fun _ => ?_) (fun e => by omega) (fun e => by omega) (fun e => by omega)
      rw [g4]
      exact (h _ m2 rfl fm).1 rfl
    -- a clause
    have yes : ¬ (kdO (sgn T n b) = -1 ∨ mxK (kdO (sgn T n b)) ≤ ctK (kdO (sgn T n b)) s) → ∀ o4'', M_readCanton_125 X (d + 7) (csS s) 1 (sgn T n b) o4'' (up m 83 3 b) Q := by
      intro hst o4''
      rw [if_neg hst] at h
      have hlt : b < n := sgn_nz (T := T) (fun q => hst (Or.inl (by rw [q]; rfl)))
      have hkc := hkk (fun e => hst (Or.inl e))
      have body : ∀ l1', l1' = csS (adK (kdO (sgn T n b)) (usK 0) s) → M_clauseText X (d + 6) (sgn T n b) (up m 83 3 b) (fun m155 => M_readCanton_165 X (d + 7) l1' 1 (sgn T n b) 1 m155 Q) := by
        intro l1' hl1
        rw [← hkc]
        generalize hkd0 : kdO (sgn T n b) = kd at h hkr hst hl1
        have hrr := itsP_r (T := T) (n := n) (kd := kd) 241 0 (b + 1) (usK kd) (by omega) (by omega) (usK_ok (by omega))
        refine M_text1_c (d := d + 1) hB hT (by omega) hSu hok0 (by omega) (hm.fr (up_ne (Or.inr (by decide))) (up_off (by decide))) e4 (by rw [e3]; omega) (fun r m1 hr w1 w2 => ?_)
        rw [e3] at hr
        rw [← hr] at h hrr
        have fm : FrQ m0 m1 := fu.tr w1
        have hm1 : TpM T n m1 := (hm.fr (up_ne (Or.inr (by decide))) (up_off (by decide)) : TpM T n (up m 83 3 b)).q w1
        refine ⟨fun y1 y2 y3 y4 => ?_, fun y1 y2 => ?_⟩
        · rw [if_neg (by rw [y1]; decide)] at h
          have hok' := adK_ok (v := r.2.2) (by omega) hok0 (hrr.2.2 y1).1 (by omega)
          have hrs := (hrr.2.2 y1).2
          have hsM2 := sgM_c hT (a := r.2.1) (by omega)
          have el1 : l1' = csS (adK kd r.2.2 s) := by
            rw [hl1]
            rcases kd_in (show 0 ≤ kd ∧ kd < 4 by omega) with rfl | rfl | rfl | rfl <;> rfl
          refine M_readCanton_165w hB ⟨by omega, fun zz => absurd y2 zz, fun _ => M_look_c hB hT hm1 (by omega) ?_⟩
          rw [y3, hrs, ← y3, up_id, y3]
          refine ⟨by omega, fun z => M_readCanton_186w hB ?_, fun z => ?_⟩
          · rw [if_neg (by omega)] at h
            rw [up_id]
            refine M_readCanton_54w hB ⟨by decide, fun _ => ?_, fun e => absurd rfl e⟩
            refine M_can_209 (d := d + 5) hB hT hm1 w2 (by omega) (fun _ => by rw [y3]; exact hrs) hok' (fun _ => y4) (fun zz => absurd y2 zz) (fun _ zz m' w => ?_) (fun _ zz hw => ?_) (fun _ zz hw m' w => ?_)
            · rw [y3] at zz ⊢
              exact (h _ m' rfl (fm.tr w)).1 (decide_eq_false zz)
            · rw [y3] at zz
              exact (h _ m1 rfl fm).2.1 (decide_eq_true zz) hw y4
            · rw [y3] at zz ⊢
              have en : r.2.1 = n := by
                by_cases q : r.2.1 < n
                · have := hT.2 r.2.1 (by omega) q
                  unfold sgn at zz
                  rw [if_pos q] at zz
                  omega
                · omega
              have := (h _ m' rfl (fm.tr w)).2.2 (decide_eq_true zz) hw
              rw [en]
              exact this
          · have zs : sgn T n r.2.1 = 59 := by omega
            have hz := sgn_nz (T := T) (n := n) (a := r.2.1) (by omega)
            rw [if_pos zs] at h
            have g3 : (up m1 83 3 (r.2.1 + 1)) 83 3 = r.2.1 + 1 := up_same _ _ _ _
            rw [el1]
            refine ih (up m1 83 3 (r.2.1 + 1)) (adK kd r.2.2 s) _ _ hm1.at3 (by rw [up_ne (Or.inr (by decide))]; exact y2) (by rw [g3]; omega) (fm.u (Or.inl rfl)) ?_ hok' (by rw [g3]; omega) (fun r' m' hr' w => ?_)
            · obtain ⟨S1, S2, S3, S4, S5, S6, S7⟩ := y4
              exact ⟨by rw [up_off (by decide)]; exact S1, by rw [up_off (by decide)]; exact S2, by rw [up_off (by decide)]; exact S3, by rw [up_off (by decide)]; exact S4, by rw [up_ne (Or.inr (by decide))]; exact S5, by rw [up_ne (Or.inr (by decide))]; exact S6, by rw [up_ne (Or.inr (by decide))]; exact S7⟩
            · rw [g3] at hr'
              exact h r' m' hr' w
        · rw [if_pos y1] at h
          refine M_readCanton_165w hB ⟨by omega, fun _ => M_readCanton_186w hB ?_, fun zz => by omega⟩
          rw [up_id]
          refine M_readCanton_54w hB ⟨by decide, fun _ => ?_, fun e => absurd rfl e⟩
          refine M_can_209 (d := d + 5) (s := s) hB hT hm1 w2 (by omega) (fun e => by omega) hok0 (fun e => by omega) (fun _ => ?_) (fun e => by omega) (fun e => by omega) (fun e => by omega)
          rw [y2]
          exact (h _ m1 rfl fm).1 rfl
      have hs115 : kdO (sgn T n b) = 0 ↔ sgn T n b = 115 := by
        constructor
        · intro e; rw [e] at hkc; exact hkc.symm
        · intro e; rw [e]; rfl
      refine M_readCanton_125w hB ⟨by omega, fun z => M_readCanton_147w hB (body 1 ?_), fun z => ⟨by omega, fun z2 => ?_, fun z2 => M_readCanton_147w hB (body 1 ?_)⟩⟩
      · by_cases q : kdO (sgn T n b) = 0
        · rw [q]; rfl
        · have hne : csS (adK (kdO (sgn T n b)) (usK 0) s) = csS s := by
            unfold adK
            rw [if_neg q]
            split
            · rfl
            · split <;> rfl
          rw [hne]; omega
      · have hne : csS (adK (kdO (sgn T n b)) (usK 0) s) = csS s := by
          unfold adK
          rw [if_neg (fun q => z2 (hs115.mp q))]
          split
          · rfl
          · split <;> rfl
        exact body 0 (by rw [hne]; omega)
      · rw [hs115.mpr z2]; rfl
    have k115 : sgn T n b = 115 → kdO (sgn T n b) = 0 := fun e => by rw [e]; rfl
    have k98 : sgn T n b = 98 → kdO (sgn T n b) = 1 := fun e => by rw [e]; rfl
    have k105 : sgn T n b = 105 → kdO (sgn T n b) = 2 := fun e => by rw [e]; rfl
    have k109 : sgn T n b = 109 → kdO (sgn T n b) = 3 := fun e => by rw [e]; rfl
    have kno : sgn T n b ≠ 115 → sgn T n b ≠ 98 → sgn T n b ≠ 105 → sgn T n b ≠ 109 → kdO (sgn T n b) = -1 := fun a1 a2 a3 a4 => by unfold kdO; rw [if_neg a1, if_neg a2, if_neg a3, if_neg a4]
    have x0 : mxK 0 = 1 := rfl
    have x1 : mxK 1 = 6 := rfl
    have x2 : mxK 2 = 4 := rfl
    have x3 : mxK 3 = 6 := rfl
    have t0 : ctK 0 s = csS s := rfl
    have t1 : ctK 1 s = csNb s := rfl
    have t2 : ctK 2 s = csNi s := rfl
    have t3 : ctK 3 s = csNm s := rfl
    -- the chain of questions
    have esg : ∀ c : Int, 1 ≤ c → (sgM T n b = c ↔ sgn T n b = c) := fun c hc => by omega
    have y110 : ∀ o, sgn T n b ≠ 115 ∨ csS s ≠ 0 → sgn T n b ≠ 98 ∨ 6 ≤ csNb s → sgn T n b ≠ 105 ∨ 4 ≤ csNi s → M_readCanton_110 X (d + 7) (csS s) 1 (sgM T n b) o (up m 83 3 b) Q := by
      intro o q1 q2 q3
      refine M_readCanton_110w hB ⟨by omega, fun z => no ?_ _ _, fun z => ⟨by omega, fun z2 => no ?_ _ _, fun z2 => ?_⟩⟩
      · by_cases z1 : sgn T n b = 115
        · right; rw [k115 z1, x0, t0]; omega
        · by_cases z2 : sgn T n b = 98
          · right; rw [k98 z2, x1, t1]; omega
          · by_cases z3 : sgn T n b = 105
            · right; rw [k105 z3, x2, t2]; omega
            · exact Or.inl (kno z1 z2 z3 (by omega))
      · right; rw [k109 (by omega), x3, t3]; omega
      · have zs : sgn T n b = 109 := by omega
        have es : sgM T n b = sgn T n b := by omega
        rw [es]
        exact yes (by rw [k109 zs, x3, t3]; omega) o
    have y96 : ∀ o, sgn T n b ≠ 115 ∨ csS s ≠ 0 → sgn T n b ≠ 98 ∨ 6 ≤ csNb s → M_readCanton_96 X (d + 7) (csS s) 1 (sgM T n b) o (up m 83 3 b) Q := by
      intro o q1 q2
      refine M_readCanton_96w hB ⟨by omega, fun z => y110 o q1 q2 (Or.inl (by omega)), fun z => ⟨by omega, fun z2 => ?_, fun z2 => y110 o q1 q2 (Or.inr (by omega))⟩⟩
      have zs : sgn T n b = 105 := by omega
      have es : sgM T n b = sgn T n b := by omega
      rw [es]
      exact yes (by rw [k105 zs, x2, t2]; omega) o
    have y81 : ∀ o, sgn T n b ≠ 115 ∨ csS s ≠ 0 → M_readCanton_81 X (d + 7) (csS s) 1 (sgM T n b) o (up m 83 3 b) Q := by
      intro o q1
      refine M_readCanton_81w hB ⟨by omega, fun z => y96 o q1 (Or.inl (by omega)), fun z => ⟨by omega, fun z2 => ?_, fun z2 => y96 o q1 (Or.inr (by omega))⟩⟩
      have zs : sgn T n b = 98 := by omega
      have es : sgM T n b = sgn T n b := by omega
      rw [es]
      exact yes (by rw [k98 zs, x1, t1]; omega) o
    refine ⟨by omega, fun z => y81 _ (Or.inl (by omega)), fun z => ⟨by omega, fun z2 => ?_, fun z2 => y81 _ (Or.inr z2)⟩⟩
    have zs : sgn T n b = 115 := by omega
    have es : sgM T n b = sgn T n b := by omega
    rw [es]
    exact yes (by rw [k115 zs, x0, t0]; omega) _
theorem M_readCanton_c (hB : Bsh X.2.2.1) (hT : TOk T n) (hm : TpM T n m) (h : ∀ r m', r = cnP T n 241 0 (cs0 (m 94) (m 95) (m 96) (m 97)) → FrQ m m' → (r.1 = false → Q r.2.1 m') ∧ (r.1 = true → whP r.2.2 → MSt m' r.2.2 → Q (-1) m') ∧ (r.1 = true → ¬ whP r.2.2 → Q n m')) : M_readCanton X (d + 7) m Q := by
  have hn := hT.1
  refine M_readCantonw hB ?_
  obtain ⟨m1, hm1⟩ : ∃ m1, m1 = up (up (up (up (up m 83 3 0) 83 4 (-1)) 83 21 0) 83 22 0) 83 23 0 := ⟨_, rfl⟩
  rw [← hm1]
  have f1 : FrQ m m1 := by rw [hm1]; exact (((((FrQ.rf m).u (by omega)).u (by omega)).u (by omega)).u (by omega)).u (by omega)
  have g94 : ∀ a, a ≠ 83 → m1 a = m a := fun a ha => by rw [hm1, up_off ha, up_off ha, up_off ha, up_off ha, up_off ha]
  have loop : ∀ (f : Nat) (l2 : Int) (m2 : Mm), 0 ≤ l2 → 5 - l2 = f → Fr [94] m1 m2 → (∀ j, m2 94 j = if 0 ≤ j ∧ j < l2 then usK 0 j else m 94 j) → M_readCanton_29 X (d + 7) 0 l2 m2 Q := by
    intro f
    induction f with
    | zero =>
      intro l2 m2 hl hf hfr hz
      have e83 : m2 83 = m1 83 := hfr 83 (by decide)
      have ff : FrQ m m2 := f1.tr ⟨hfr.wd (by decide), fun k _ _ _ _ _ => by rw [e83]⟩
      have e3 : m2 83 3 = 0 := by rw [e83, hm1, up_ne (Or.inr (by decide)), up_ne (Or.inr (by decide)), up_ne (Or.inr (by decide)), up_ne (Or.inr (by decide)), up_same]
      have e4 : m2 83 4 = -1 := by rw [e83, hm1, up_ne (Or.inr (by decide)), up_ne (Or.inr (by decide)), up_ne (Or.inr (by decide)), up_same]
      refine M_readCanton_29w hB ⟨by omega, fun _ => ?_, fun z => by omega⟩
      refine M_can_54 (m0 := m) hB hT 241 m2 (cs0 (m 94) (m 95) (m 96) (m 97)) none none (hm.q ff) e4 (by rw [e3]; omega) ff ⟨?_, ?_, ?_, ?_, ?_, ?_, ?_⟩ (cs0_ok _ _ _ _) (by rw [e3]; omega) (fun r m' hr w => ?_)
      · funext j
        rw [hz j]
        show _ = pvF (m 94) 0 5 (usK 0) j
        unfold pvF
        by_cases z : 0 ≤ j ∧ j < 5
        · rw [if_pos (by omega), if_pos (by omega), show j - 0 = j by omega]
        · rw [if_neg (by omega), if_neg (by omega)]
      · rw [hfr 95 (by decide), g94 95 (by decide)]; rfl
      · rw [hfr 96 (by decide), g94 96 (by decide)]; rfl
      · rw [hfr 97 (by decide), g94 97 (by decide)]; rfl
      · rw [e83, hm1, up_ne (Or.inr (by decide)), up_ne (Or.inr (by decide)), up_same]; rfl
      · rw [e83, hm1, up_ne (Or.inr (by decide)), up_same]; rfl
      · rw [e83, hm1, up_same]; rfl
      · rw [e3] at hr
        exact h r m' hr w
    | succ f ih =>
      intro l2 m2 hl hf hfr hz
      refine M_readCanton_29w hB ⟨by omega, fun z => by omega, fun _ => ?_⟩
      have key : M_usual X (d + 6) (kcO 0) l2 m2 (fun v42 m42 => (0 ≤ l2 ∧ l2 < 5) ∧ M_readCanton_29 X (d + 7) 0 (l2 + 1) (up m42 94 l2 v42) Q) := M_usual_c hB (by decide) (by have : mnK 0 = 5 := rfl; omega) ⟨by omega, ih (l2 + 1) _ (by omega) (by omega) (hfr.up (by simp)) (fun j => by
          rw [up_at, hz j]
          by_cases z : j = l2
          · rw [if_pos z, if_pos (by omega), z]
          · rw [if_neg z]
            by_cases z2 : 0 ≤ j ∧ j < l2
            · rw [if_pos z2, if_pos (by omega)]
            · rw [if_neg z2, if_neg (by omega)])⟩
      exact key
  exact loop 5 0 m1 (by decide) (by decide) (Fr.rf _ _) (fun j => by rw [if_neg (by omega), g94 94 (by decide)])
end MCan3
