/-! ===== the class reads a canton: the whole ===== -/
theorem nf_t {b : Bool} (h : ¬ b = false) : b = true := by
  cases b
  · exact absurd rfl h
  · rfl
section CCan3
variable {X : Cx} {d c : Nat} {m : Mm} {Q : Int → Mm → Prop} {Q0 : Mm → Prop} {T : Int → Int} {n : Int} {s : Cs}
/-- the first bump at a row and column is this one, or there is one ahead of it -/
theorem K_first_c (hB : Bsh X.2.2.1) (hc : cO c) (hS : CSt m c s) (hok : csOk s) {b : Int} (hb : 0 ≤ b ∧ b < csNb s) (hy : (∀ o, 0 ≤ o → o < b → ¬ (csB s (4 * o) = csB s (4 * b) ∧ csB s (4 * o + 1) = csB s (4 * b + 1))) → Q b m) (ho : ∀ v, (0 ≤ v ∧ v < b) → csB s (4 * v) = csB s (4 * b) ∧ csB s (4 * v + 1) = csB s (4 * b + 1) → Q v m) : K_bumpAt X (d + 1) c (csB s (4 * b)) (csB s (4 * b + 1)) m Q := by
  obtain ⟨S1, S2, S3, S4, S5, S6, S7, S8⟩ := hS
  obtain ⟨o1, o2, o3, o4, o5, o6, o7, o8⟩ := hok
  have rg : ∀ v j, 0 ≤ v → v < csNb s → 0 ≤ j → j < 4 → 0 ≤ csB s (4 * v + j) ∧ csB s (4 * v + j) ≤ 60 := by
    intro v j h1 h2 h3 h4
    have := o6 v h1 h2 j h3 h4
    have tb := tbK 1 (by decide) j.toNat (by omega) (by rw [show ((j.toNat : Nat) : Int) = j by omega]; exact h4)
    rw [show ((j.toNat : Nat) : Int) = j by omega] at tb
    have tb2 := tb.2.1
    have e1 : loK ((1 : Nat) : Int) j = loK 1 j := rfl
    have e2 : hiK ((1 : Nat) : Int) j = hiK 1 j := rfl
    rw [e1, e2] at tb2
    omega
  have r0 := rg b 0 hb.1 hb.2 (by decide) (by decide)
  have r1 := rg b 1 hb.1 hb.2 (by decide) (by decide)
  rw [Int.add_zero] at r0
  have loop : ∀ (f : Nat) (v : Int), 0 ≤ v → b - v = f → (∀ o, 0 ≤ o → o < v → ¬ (csB s (4 * o) = csB s (4 * b) ∧ csB s (4 * o + 1) = csB s (4 * b + 1))) → K_bumpAt_2 X (d + 1) c (csB s (4 * b)) (csB s (4 * b + 1)) v m Q := by
    intro f
    induction f with
    | zero =>
      intro v hv hf hno
      have e : v = b := by omega
      subst e
      refine K_bumpAt_2w hB hc ⟨by omega, by omega, fun z => by omega, fun _ => K_ofBump_c hB hc (by omega) ?_⟩
      rw [Int.add_zero, S3 _ (by omega) (by omega)]
      refine ⟨by omega, by omega, fun z => absurd rfl z, fun _ => K_ofBump_c hB hc (by omega) ?_⟩
      rw [S3 _ (by omega) (by omega)]
      exact ⟨by omega, by omega, fun z => absurd rfl z, fun _ => hy hno⟩
    | succ f ih =>
      intro v hv hf hno
      have q0 := rg v 0 hv (by omega) (by decide) (by decide)
      have q1 := rg v 1 hv (by omega) (by decide) (by decide)
      rw [Int.add_zero] at q0
      have step : ¬ (csB s (4 * v) = csB s (4 * b) ∧ csB s (4 * v + 1) = csB s (4 * b + 1)) → K_bumpAt_2 X (d + 1) c (csB s (4 * b)) (csB s (4 * b + 1)) (v + 1) m Q := fun hn => ih (v + 1) (by omega) (by omega) (fun o h1 h2 => by
        by_cases z : o = v
        · rw [z]; exact hn
        · exact hno o h1 (by omega))
      refine K_bumpAt_2w hB hc ⟨by omega, by omega, fun z => by omega, fun _ => K_ofBump_c hB hc (by omega) ?_⟩
      rw [Int.add_zero, S3 _ (by omega) (by omega)]
      refine ⟨by omega, by omega, fun z => step (fun e => z e.1), fun z => K_ofBump_c hB hc (by omega) ?_⟩
      rw [S3 _ (by omega) (by omega)]
      exact ⟨by omega, by omega, fun z2 => step (fun e => z2 e.2), fun z2 => ho v (by omega) ⟨z, z2⟩⟩
  exact K_bumpAtw hB hc (loop b.toNat 0 (by omega) (by omega) (fun o h1 h2 => by omega))
theorem K_sound_c (hB : Bsh X.2.2.1) (hc : cO c) (hS : CSt m c s) (hok : csOk s) (hy : whP s → Q 1 m) (ho : ¬ whP s → Q 0 m) : K_isSound X (d + 2) c m Q := by
  have hS0 := hS
  have hok0 := hok
  obtain ⟨S1, S2, S3, S4, S5, S6, S7, S8⟩ := hS
  obtain ⟨o1, o2, o3, o4, o5, o6, o7, o8⟩ := hok
  have e0 := S1 0 (by decide) (by decide)
  have e1 := S1 1 (by decide) (by decide)
  have R0 := o5 0 (by decide) (by decide)
  have R1 := o5 1 (by decide) (by decide)
  have l0 : loK 0 0 = 3 := rfl
  have u0 : hiK 0 0 = 9 := rfl
  have l1 : loK 0 1 = 0 := rfl
  have u1 : hiK 0 1 = 8 := rfl
  refine K_isSoundw hB hc ⟨by omega, fun z => ho (fun w => by have := w.1; omega), fun z => ⟨by omega, fun z2 => ho (fun w => ?_), fun z2 => ⟨by omega, by omega, fun z3 => ?_, fun z3 => ho (fun w => by have := w.2.1; omega)⟩⟩⟩
  · rcases S7 with ⟨y1, y2⟩ | ⟨y1, y2⟩
    · omega
    · exact y2 w.2.2.2
  · have hno : noTw s := by
      rcases S7 with ⟨y1, y2⟩ | ⟨y1, y2⟩
      · exact y2
      · omega
    have loop : ∀ (f : Nat) (v : Int) (o2' : Option Int), 0 ≤ v → csNb s - v = f → (∀ b, 0 ≤ b → b < v → csB s (4 * b + 1) < csR s 0 ∧ ∀ o, 0 ≤ o → o < b → ¬ (csB s (4 * o) = csB s (4 * b) ∧ csB s (4 * o + 1) = csB s (4 * b + 1))) → K_isSound_33 X (d + 2) c v o2' m Q := by
      intro f
      induction f with
      | zero =>
        intro v o2' hv hf hall
        have e : v = csNb s := by omega
        refine K_isSound_33w hB hc ⟨by omega, by omega, fun _ => hy ⟨by omega, by omega, by rw [← e]; exact hall, hno⟩, fun zz => by omega⟩
      | succ f ih =>
        intro v o2' hv hf hall
        have q1 := o6 v hv (by omega) 1 (by decide) (by decide)
        have lb : loK 1 1 = 0 := rfl
        have ub : hiK 1 1 = 8 := rfl
        refine K_isSound_33w hB hc ⟨by omega, by omega, fun zz => by omega, fun _ => K_ofBump_c hB hc (by omega) ?_⟩
        rw [S3 _ (by omega) (by omega)]
        refine ⟨by omega, by omega, fun zz => ho (fun w => by have := (w.2.2.1 v hv (by omega)).1; omega), fun zz => K_ofBump_c hB hc (by omega) ?_⟩
        rw [Int.add_zero, S3 (4 * v) (by omega) (by omega)]
        refine K_first_c hB hc hS0 hok0 (by omega) (fun hfirst => ⟨by omega, fun _ => ih (v + 1) _ (by omega) (by omega) (fun b h1 h2 => ?_), fun q => absurd rfl q⟩) (fun w hw hsame => ⟨by omega, fun q => by omega, fun _ => ho (fun hp => (hp.2.2.1 v hv (by omega)).2 w hw.1 hw.2 hsame)⟩)
        by_cases zb : b = v
        · rw [zb]; exact ⟨by omega, hfirst⟩
        · exact hall b h1 (by omega)
    exact loop (csNb s).toNat 0 none (by omega) (by omega) (fun b h1 h2 => by omega)
theorem R_read_36_c (hB : Bsh X.2.2.1) (hB2 : X.2.2.1.length ≤ 1000000) (hfv : X.2.1 = .null ∨ X.2.1 = .ref (aK + 9)) (hT : TOk T n) (hc : cO c) {m0 : Mm} : ∀ (k : Nat) (l2 : Int) (m : Mm) (s : Cs), k ≤ 241 → l2 = 241 - k → TpC T n m → (0 ≤ m 3 3 ∧ m 3 3 ≤ n) → Fr (drL c) m0 m → CSt m c s → csOk s →
    (∀ r m', r = cnP T n k (m 3 3) s → Fr (drL c) m0 m' → (r.1 = false → Q r.2.1 m') ∧ (r.1 = true → whP r.2.2 → CSt m' c r.2.2 → Q (-1) m') ∧ (r.1 = true → ¬ whP r.2.2 → Q n m')) → R_read_36 X (d + 7) c l2 m Q := by
  have hn := hT.1
  intro k
  induction k with
  | zero =>
    intro l2 m s hk hl hm ha hf hS hok h
    refine R_read_36w hB hc hB2 ⟨by omega, fun _ => ?_, fun z => by omega⟩
    exact (h _ m rfl hf).1 rfl
  | succ k ih =>
    intro l2 m s hk hl hm ha hf hS hok h
    have hk1 := sk_ge T n (m 3 3)
    have hk2 := sk_le (T := T) ha.2
    unfold cnP at h
    have hkr := kdO_r (sgn T n (sk T n (m 3 3)))
    have hlt : kdO (sgn T n (sk T n (m 3 3))) ≠ -1 → sk T n (m 3 3) < n := fun e => sgn_nz (T := T) (fun q => e (by rw [q]; rfl))
    refine R_read_36w hB hc hB2 ⟨by omega, fun z => by omega, fun _ => R_clause_c hB hB2 hfv hT hc hm ha hS hok (fun m1 g1 g2 g3 => ?_) (fun r m1 hr g1 g2 g3 g4 => ?_)⟩
    · rw [if_pos g2] at h
      refine ⟨by decide, fun e => absurd rfl e, fun _ => ?_⟩
      rw [g3]
      exact (h _ m1 rfl (hf.tr g1)).1 rfl
    · rw [if_neg g1] at h
      have hlt := hlt (fun e => g1 (Or.inl e))
      generalize kdO (sgn T n (sk T n (m 3 3))) = kd at h hkr hr g1 g4
      have hrr := itsP_r (T := T) (n := n) (kd := kd) 241 0 (sk T n (m 3 3) + 1) (usK kd) (by omega) (by omega) (usK_ok (by omega))
      rw [← hr] at h hrr
      have hf1 := hf.tr g2
      have hm1 : TpC T n m1 := hm.dr hc g2
      cases hb : itEnd T n r with
      | false =>
        refine ⟨by decide, fun e => absurd rfl e, fun _ => ?_⟩
        rw [g3]
        by_cases z1 : r.1 = false
        · rw [if_pos z1] at h
          exact (h _ m1 rfl hf1).1 rfl
        · have zt : r.1 = true := nf_t z1
          unfold itEnd at hb
          rw [zt, Bool.true_and, Bool.or_eq_false_iff] at hb
          have b1 := of_decide_eq_false hb.1
          have b2 := of_decide_eq_false hb.2
          rw [if_neg z1, if_neg b2] at h
          exact (h _ m1 rfl hf1).1 (decide_eq_false b1)
      | true =>
        have g4 := g4 hb
        unfold itEnd at hb
        have zt : r.1 = true := (Bool.and_eq_true _ _ ▸ hb).1
        have zs : sgn T n r.2.1 = 0 ∨ sgn T n r.2.1 = 59 := by
          have := (Bool.and_eq_true _ _ ▸ hb).2
          rcases (Bool.or_eq_true _ _ ▸ this) with q | q
          · exact Or.inl (of_decide_eq_true q)
          · exact Or.inr (of_decide_eq_true q)
        have z1 : ¬ r.1 = false := by rw [zt]; decide
        rw [if_neg z1] at h
        have hok' := adK_ok (by omega) hok (hrr.2.2 zt).1 (by omega)
        have e11 := hm1.1
        refine ⟨by decide, fun _ => ⟨by omega, by omega, fun z => ?_, fun z => ?_⟩, fun e => absurd e (by decide)⟩
        · have h59 : sgn T n r.2.1 = 59 := by
            rcases zs with q | q
            · have := hT.2 r.2.1 (by omega) (by omega)
              unfold sgn at q
              rw [if_pos (by omega)] at q
              omega
            · exact q
          rw [if_pos h59] at h
          rw [g3]
          have e3 : (up m1 3 3 (r.2.1 + 1)) 3 3 = r.2.1 + 1 := up_same _ _ _ _
          refine ih (l2 + 1) _ (adK kd r.2.2 s) (by omega) (by omega) hm1.a3 (by rw [e3]; omega) (hf1.up (by simp)) (g4.cg (up_off (by omega)) (up_off (by omega)) (up_off (by omega)) (up_off (by omega)) (up_off (by omega))) hok' (fun r' m' hr' w => ?_)
          rw [e3] at hr'
          exact h r' m' hr' w
        · have h0 : sgn T n r.2.1 = 0 := by unfold sgn; rw [if_neg (by omega)]
          rw [if_neg (by omega)] at h
          refine K_sound_c hB hc g4 hok' (fun hw => ⟨by decide, fun e => absurd e (by decide), fun _ => ?_⟩) (fun hw => ⟨by decide, fun _ => ?_, fun e => absurd rfl e⟩)
          · exact (h _ m1 rfl hf1).2.1 (decide_eq_true h0) hw g4
          · rw [e11]
            exact (h _ m1 rfl hf1).2.2 (decide_eq_true h0) hw
/-- how the class's reading begins -/
def cs0 (R B I M : Int → Int) : Cs := ((0, 0, 0, 0), pvF R 0 5 (usK 0), B, I, M)
theorem cs0_ok (R B I M : Int → Int) : csOk (cs0 R B I M) := by
  refine ⟨Or.inl rfl, by show (0 : Int) ≤ 0 ∧ (0 : Int) ≤ 6; decide, by show (0 : Int) ≤ 0 ∧ (0 : Int) ≤ 4; decide, by show (0 : Int) ≤ 0 ∧ (0 : Int) ≤ 6; decide, fun j h1 h2 => ?_, fun b h1 h2 => ?_, fun b h1 h2 => ?_, fun b h1 h2 => ?_⟩
  · show loK 0 j ≤ pvF R 0 5 (usK 0) j ∧ pvF R 0 5 (usK 0) j ≤ hiK 0 j
    have h5 : mnK 0 = 5 := rfl
    unfold pvF
    rw [if_pos (by omega), show j - 0 = j by omega]
    exact usK_ok (by decide) j h1 h2
  · have : b < 0 := h2
    omega
  · have : b < 0 := h2
    omega
  · have : b < 0 := h2
    omega
theorem R_read_c (hB : Bsh X.2.2.1) (hB2 : X.2.2.1.length ≤ 1000000) (hfv : X.2.1 = .null ∨ X.2.1 = .ref (aK + 9)) (hT : TOk T n) (hc : cO c) (hm : TpC T n m) {R B I M : Int → Int} (h : ∀ r m', r = cnP T n 241 0 (cs0 R B I M) → Fr (drL c) m m' → (r.1 = false → Q r.2.1 m') ∧ (r.1 = true → whP r.2.2 → CSt m' c r.2.2 → Q (-1) m') ∧ (r.1 = true → ¬ whP r.2.2 → Q n m')) : R_read X (d + 7) c m Q := by
  have hn := hT.1
  refine R_readw hB hc hB2 (K_clearw hB hc (A_fillw hB (Or.inl rfl) ?_))
  obtain ⟨m1, hm1⟩ : ∃ m1, m1 = upR (up (up (up (up m c 3 0) c 4 0) c 5 0) c 6 0) (c + 1) 0 (0 + 5) (fun j => gx xUSUAL (j - 0 + 0)) := ⟨_, rfl⟩
  rw [← hm1]
  have f1 : Fr (drL c) m m1 := by rw [hm1]; exact (((((Fr.rf _ m).up (by simp)).up (by simp)).up (by simp)).up (by simp)).upR (by simp)
  have e4 : (aLen 5 : Int) = 4 := rfl
  rw [e4]
  have fill : ∀ (f : Nat) (m2 : Mm) (l2 : Int), 0 ≤ l2 → 4 - l2 = f → Fr [5] m1 m2 → (∀ j, 0 ≤ j → j < l2 → m2 5 j = 0) → A_fill_5 X (d + 6) 5 0 l2 4 m2 (fun m26 => R_read_36 X (d + 7) c 0 (up m26 3 3 0) Q) := by
    intro f
    induction f with
    | zero =>
      intro m2 l2 hl hf hfr hz
      refine A_fill_5w hB (Or.inl rfl) ⟨by omega, by omega, fun _ => ?_, fun z => by omega⟩
      have e3 : (up m2 3 3 0) 3 3 = 0 := up_same _ _ _ _
      have f2 : Fr (drL c) m (up m2 3 3 0) := (f1.tr (hfr.wd (by simp))).up (by simp)
      have g : ∀ a, a ≠ 3 → a ≠ 5 → (up m2 3 3 0) a = m1 a := fun a h3 h5 => by rw [up_off h3]; exact hfr a (by simp; exact h5)
      refine R_read_36_c hB hB2 hfv hT hc 241 0 (up m2 3 3 0) (cs0 R B I M) (by decide) (by decide) (hm.dr hc f2) (by rw [e3]; omega) f2 ?_ (cs0_ok R B I M) (fun r m' hr w => ?_)
      · refine ⟨fun j q1 q2 => ?_, ?_, fun j q1 q2 => ?_, ?_, fun j q1 q2 => ?_, ?_, Or.inl ⟨?_, fun k o q1 q2 q3 => ?_⟩, ?_, ?_, ?_, ?_⟩
        · rw [g (c + 1) (by omega) (by omega), hm1, upR_in (by omega)]
          show gx xUSUAL (j - 0 + 0) = pvF R 0 5 (usK 0) j
          unfold pvF
          rw [if_pos (by omega)]
          show gx xUSUAL (j - 0 + 0) = gx xUSUAL (gx xFIRST 0 + (j - 0))
          have : gx xFIRST 0 = 0 := rfl
          rw [this]
          congr 1
          omega
        · rw [g c (by omega) (by omega), hm1, upR_off (by omega), up_ne (Or.inr (by decide)), up_ne (Or.inr (by decide)), up_ne (Or.inr (by decide)), up_same]; rfl
        · have : j < 4 * 0 := q2
          omega
        · rw [g c (by omega) (by omega), hm1, upR_off (by omega), up_ne (Or.inr (by decide)), up_ne (Or.inr (by decide)), up_same]; rfl
        · have : j < 4 * 0 := q2
          omega
        · rw [g c (by omega) (by omega), hm1, upR_off (by omega), up_ne (Or.inr (by decide)), up_same]; rfl
        · rw [g c (by omega) (by omega), hm1, upR_off (by omega), up_same]
        · have : k < 0 := q3
          omega
        · rw [up_off (by decide)]; exact hz 0 (by omega) (by omega)
        · rw [up_off (by decide)]; exact hz 1 (by omega) (by omega)
        · rw [up_off (by decide)]; exact hz 2 (by omega) (by omega)
        · rw [up_off (by decide)]; exact hz 3 (by omega) (by omega)
      · rw [e3] at hr
        exact h r m' hr w
    | succ f ih =>
      intro m2 l2 hl hf hfr hz
      have ea : (aLen 5 : Int) = 4 := rfl
      refine A_fill_5w hB (Or.inl rfl) ⟨by omega, by omega, fun z => by omega, fun _ => ⟨by omega, ih _ (l2 + 1) (by omega) (by omega) (hfr.up (by simp)) (fun j h1 h2 => ?_)⟩⟩
      rw [up_at]
      by_cases z : j = l2
      · rw [if_pos z]
      · rw [if_neg z]; exact hz j h1 (by omega)
  exact fill 4 m1 0 (by decide) (by decide) (Fr.rf _ _) (fun j h1 h2 => by omega)
end CCan3
