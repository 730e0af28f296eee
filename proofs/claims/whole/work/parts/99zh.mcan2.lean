/-! ===== the reference reads a canton: clauses, the whole ===== -/
/-- the reference's draft -/
def MSt (m : Mm) (s : Cs) : Prop := m 94 = csR s ∧ m 95 = csB s ∧ m 96 = csI s ∧ m 97 = csM s ∧ m 83 21 = csNb s ∧ m 83 22 = csNi s ∧ m 83 23 = csNm s
def FrQ (m m' : Mm) : Prop := Fr [83, 94, 95, 96, 97] m m' ∧ ∀ k, k ≠ 3 → k ≠ 4 → k ≠ 21 → k ≠ 22 → k ≠ 23 → m' 83 k = m 83 k
theorem FrQ.rf (m : Mm) : FrQ m m := ⟨Fr.rf _ _, fun _ _ _ _ _ _ => rfl⟩
theorem FrQ.tr {m m1 m2 : Mm} (h1 : FrQ m m1) (h2 : FrQ m1 m2) : FrQ m m2 := ⟨h1.1.tr h2.1, fun k a b c e f => (h2.2 k a b c e f).trans (h1.2 k a b c e f)⟩
theorem FrQ.u {m m1 : Mm} (h : FrQ m m1) {k v : Int} (hk : k = 3 ∨ k = 4 ∨ k = 21 ∨ k = 22 ∨ k = 23) : FrQ m (up m1 83 k v) := ⟨h.1.up (by simp), fun j a b c e f => by rw [up_ne (Or.inr (by omega))]; exact h.2 j a b c e f⟩
theorem FrQ.of {m m1 : Mm} {t : Nat} (h1 : Fr [83, t] m m1) (h2 : F83 m m1) (ht : tO t) : FrQ m m1 := ⟨h1.wd (by simp; omega), fun k a b _ _ _ => h2 k a b⟩
theorem TpM.q {T : Int → Int} {n : Int} {m m' : Mm} (h : TpM T n m) (hf : FrQ m m') : TpM T n m' := h.fr (hf.2 2 (by decide) (by decide) (by decide) (by decide) (by decide)) (hf.1 84 (by decide))
section MCan2
variable {X : Cx} {d : Nat} {m : Mm} {Q : Int → Mm → Prop} {Q0 : Mm → Prop} {T : Int → Int} {n kd : Int} {s : Cs}
theorem M_text1_c (hB : Bsh X.2.2.1) (hT : TOk T n) (hkd : 0 ≤ kd ∧ kd < 4) (hS : MSt m s) (hok : csOk s) (hct : ctK kd s < mxK kd) (hm : TpM T n m) (h4 : m 83 4 = -1) (ha : 0 ≤ m 83 3 ∧ m 83 3 < n)
    (h : ∀ r m', r = itsP T n kd 241 0 (m 83 3 + 1) (usK kd) → FrQ m m' → (0 ≤ m' 83 3 ∧ m' 83 3 ≤ n) → (r.1 = true → m' 83 4 = -1 → m' 83 3 = r.2.1 → MSt m' (adK kd r.2.2 s) → Q0 m') ∧ (r.1 = false → m' 83 4 = r.2.1 → Q0 m')) : M_clauseText X (d + 5) (kcO kd) m Q0 := by
  obtain ⟨S1, S2, S3, S4, S5, S6, S7⟩ := hS
  obtain ⟨o1, o2, o3, o4, o5, o6, o7, o8⟩ := hok
  have f3 : (up m 83 3 (m 83 3 + 1)) 83 3 = m 83 3 + 1 := up_same _ _ _ _
  have f4 : (up m 83 3 (m 83 3 + 1)) 83 4 = -1 := by rw [up_ne (Or.inr (by decide))]; exact h4
  have hmu : TpM T n (up m 83 3 (m 83 3 + 1)) := hm.at3
  have fq0 : FrQ m (up m 83 3 (m 83 3 + 1)) := (FrQ.rf m).u (Or.inl rfl)
  rcases kd_in hkd with rfl | rfl | rfl | rfl
  · refine M_clauseTextw hB ⟨by decide, fun e => absurd e (by decide), fun e => absurd e (by decide), fun _ => ?_, fun e => absurd rfl e.2.2⟩
    refine M_items_c (kd := 0) (t := 94) (fr := 0) hB hT hkd (Or.inl rfl) (by decide) hmu f4 (by rw [f3]; omega) (fun r m' hr w1 w2 w3 => ?_)
    rw [f3] at hr
    have fq := fq0.tr (FrQ.of w1 w2 (Or.inl rfl))
    have hh := h r m' hr fq w3
    refine ⟨fun e1 e2 e3 e4 => hh.1 e1 e2 e3 ⟨?_, ?_, ?_, ?_, ?_, ?_, ?_⟩, hh.2⟩
    · rw [e4, up_off (by decide), S1]; rfl
    · rw [w1 95 (by decide), up_off (by decide)]; exact S2
    · rw [w1 96 (by decide), up_off (by decide)]; exact S3
    · rw [w1 97 (by decide), up_off (by decide)]; exact S4
    · rw [w2 21 (by decide) (by decide), up_ne (Or.inr (by decide))]; exact S5
    · rw [w2 22 (by decide) (by decide), up_ne (Or.inr (by decide))]; exact S6
    · rw [w2 23 (by decide) (by decide), up_ne (Or.inr (by decide))]; exact S7
  · have hct' : csNb s < 6 := hct
    refine M_clauseTextw hB ⟨by decide, fun _ => ?_, fun e => absurd e (by decide), fun e => absurd e (by decide), fun e => absurd rfl e.1⟩
    rw [S5]
    refine M_items_c (kd := 1) (t := 95) (fr := 4 * csNb s) hB hT hkd (Or.inr (Or.inl rfl)) (by have e1 : mnK 1 = 4 := rfl; have e2 : (tLen 95 : Int) = 24 := rfl; omega) hmu f4 (by rw [f3]; omega) (fun r m' hr w1 w2 w3 => ?_)
    rw [f3] at hr
    have e21 : m' 83 21 = csNb s := by rw [w2 21 (by decide) (by decide), up_ne (Or.inr (by decide))]; exact S5
    have fq : FrQ m (up m' 83 21 (m' 83 21 + 1)) := (fq0.tr (FrQ.of w1 w2 (Or.inr (Or.inl rfl)))).u (Or.inr (Or.inr (Or.inl rfl)))
    have hh := h r (up m' 83 21 (m' 83 21 + 1)) hr fq (by rw [up_ne (Or.inr (by decide))]; exact w3)
    refine ⟨fun e1 e2 e3 e4 => hh.1 e1 (by rw [up_ne (Or.inr (by decide))]; exact e2) (by rw [up_ne (Or.inr (by decide))]; exact e3) ⟨?_, ?_, ?_, ?_, ?_, ?_, ?_⟩, fun e1 e2 => hh.2 e1 (by rw [up_ne (Or.inr (by decide))]; exact e2)⟩
    · rw [up_off (by decide), w1 94 (by decide), up_off (by decide)]; exact S1
    · rw [up_off (by decide), e4, up_off (by decide), S2]; rfl
    · rw [up_off (by decide), w1 96 (by decide), up_off (by decide)]; exact S3
    · rw [up_off (by decide), w1 97 (by decide), up_off (by decide)]; exact S4
    · rw [up_same, e21]; rfl
    · rw [up_ne (Or.inr (by decide)), w2 22 (by decide) (by decide), up_ne (Or.inr (by decide))]; exact S6
    · rw [up_ne (Or.inr (by decide)), w2 23 (by decide) (by decide), up_ne (Or.inr (by decide))]; exact S7
  · have hct' : csNi s < 4 := hct
    refine M_clauseTextw hB ⟨by decide, fun e => absurd e (by decide), fun _ => ?_, fun e => absurd e (by decide), fun e => absurd rfl e.2.1⟩
    rw [S6]
    refine M_items_c (kd := 2) (t := 96) (fr := csNi s) hB hT hkd (Or.inr (Or.inr (Or.inl rfl))) (by have e1 : mnK 2 = 1 := rfl; have e2 : (tLen 96 : Int) = 4 := rfl; omega) hmu f4 (by rw [f3]; omega) (fun r m' hr w1 w2 w3 => ?_)
    rw [f3] at hr
    have e22 : m' 83 22 = csNi s := by rw [w2 22 (by decide) (by decide), up_ne (Or.inr (by decide))]; exact S6
    have fq : FrQ m (up m' 83 22 (m' 83 22 + 1)) := (fq0.tr (FrQ.of w1 w2 (Or.inr (Or.inr (Or.inl rfl))))).u (Or.inr (Or.inr (Or.inr (Or.inl rfl))))
    have hh := h r (up m' 83 22 (m' 83 22 + 1)) hr fq (by rw [up_ne (Or.inr (by decide))]; exact w3)
    refine ⟨fun e1 e2 e3 e4 => hh.1 e1 (by rw [up_ne (Or.inr (by decide))]; exact e2) (by rw [up_ne (Or.inr (by decide))]; exact e3) ⟨?_, ?_, ?_, ?_, ?_, ?_, ?_⟩, fun e1 e2 => hh.2 e1 (by rw [up_ne (Or.inr (by decide))]; exact e2)⟩
    · rw [up_off (by decide), w1 94 (by decide), up_off (by decide)]; exact S1
    · rw [up_off (by decide), w1 95 (by decide), up_off (by decide)]; exact S2
    · rw [up_off (by decide), e4, up_off (by decide), S3]; rfl
    · rw [up_off (by decide), w1 97 (by decide), up_off (by decide)]; exact S4
    · rw [up_ne (Or.inr (by decide)), w2 21 (by decide) (by decide), up_ne (Or.inr (by decide))]; exact S5
    · rw [up_same, e22]; rfl
    · rw [up_ne (Or.inr (by decide)), w2 23 (by decide) (by decide), up_ne (Or.inr (by decide))]; exact S7
  · have hct' : csNm s < 6 := hct
    refine M_clauseTextw hB ⟨by decide, fun e => absurd e (by decide), fun e => absurd e (by decide), fun e => absurd e (by decide), fun _ => ?_⟩
    rw [S7]
    refine M_items_c (kd := 3) (t := 97) (fr := 4 * csNm s) hB hT hkd (Or.inr (Or.inr (Or.inr rfl))) (by have e1 : mnK 3 = 4 := rfl; have e2 : (tLen 97 : Int) = 24 := rfl; omega) hmu f4 (by rw [f3]; omega) (fun r m' hr w1 w2 w3 => ?_)
    rw [f3] at hr
    have e23 : m' 83 23 = csNm s := by rw [w2 23 (by decide) (by decide), up_ne (Or.inr (by decide))]; exact S7
    have fq : FrQ m (up m' 83 23 (m' 83 23 + 1)) := (fq0.tr (FrQ.of w1 w2 (Or.inr (Or.inr (Or.inr rfl))))).u (Or.inr (Or.inr (Or.inr (Or.inr rfl))))
    have hh := h r (up m' 83 23 (m' 83 23 + 1)) hr fq (by rw [up_ne (Or.inr (by decide))]; exact w3)
    refine ⟨fun e1 e2 e3 e4 => hh.1 e1 (by rw [up_ne (Or.inr (by decide))]; exact e2) (by rw [up_ne (Or.inr (by decide))]; exact e3) ⟨?_, ?_, ?_, ?_, ?_, ?_, ?_⟩, fun e1 e2 => hh.2 e1 (by rw [up_ne (Or.inr (by decide))]; exact e2)⟩
    · rw [up_off (by decide), w1 94 (by decide), up_off (by decide)]; exact S1
    · rw [up_off (by decide), w1 95 (by decide), up_off (by decide)]; exact S2
    · rw [up_off (by decide), w1 96 (by decide), up_off (by decide)]; exact S3
    · rw [up_off (by decide), e4, up_off (by decide), S4]; rfl
    · rw [up_ne (Or.inr (by decide)), w2 21 (by decide) (by decide), up_ne (Or.inr (by decide))]; exact S5
    · rw [up_ne (Or.inr (by decide)), w2 22 (by decide) (by decide), up_ne (Or.inr (by decide))]; exact S6
    · rw [up_same, e23]; rfl
/-- a flag tells whether something holds -/
def flg (l : Int) (P : Prop) : Prop := (l = 1 ∧ P) ∨ (l = 0 ∧ ¬ P)
theorem flg.c {l : Int} {P P' : Prop} (h : flg l P) (e : P ↔ P') : flg l P' := by
  rcases h with ⟨a, b⟩ | ⟨a, b⟩
  · exact Or.inl ⟨a, e.mp b⟩
  · exact Or.inr ⟨a, fun q => b (e.mpr q)⟩
theorem M_whole_c (hB : Bsh X.2.2.1) (hS : MSt m s) (hok : csOk s) (hy : whP s → Q 1 m) (ho : ¬ whP s → Q 0 m) : M_isWhole X d m Q := by
  obtain ⟨S1, S2, S3, S4, S5, S6, S7⟩ := hS
  obtain ⟨o1, o2, o3, o4, o5, o6, o7, o8⟩ := hok
  have R0 := o5 0 (by decide) (by decide)
  have R1 := o5 1 (by decide) (by decide)
  have l0 : loK 0 0 = 3 := rfl
  have u0 : hiK 0 0 = 9 := rfl
  have l1 : loK 0 1 = 0 := rfl
  have u1 : hiK 0 1 = 8 := rfl
  have rg : ∀ v j, 0 ≤ v → v < csNb s → 0 ≤ j → j < 4 → 0 ≤ csB s (4 * v + j) ∧ csB s (4 * v + j) ≤ 60 := by
    intro v j h1 h2 h3 h4
    have := o6 v h1 h2 j h3 h4
    have tb := tbK 1 (by decide) j.toNat (by omega) (by rw [show ((j.toNat : Nat) : Int) = j by omega]; exact h4)
    rw [show ((j.toNat : Nat) : Int) = j by omega] at tb
    have tb2 := tb.2.1
    have e1 : loK ((1 : Nat) : Int) j = loK 1 j := rfl
    have e2 : hiK ((1 : Nat) : Int) j = hiK 1 j := rfl
    rw [e1, e2] at tb2
    omega
  have dup : ∀ o b : Int, Prop := fun o b => csB s (4 * o) = csB s (4 * b) ∧ csB s (4 * o + 1) = csB s (4 * b + 1)
  -- ice
  have ice2 : ∀ (P : Prop) (k : Int), 0 ≤ k → k < csNi s → ∀ (f : Nat) (l1 l3 : Int), 0 ≤ l3 → k - l3 = f → flg l1 (P ∧ ∀ o, 0 ≤ o → o < l3 → csI s o ≠ csI s k) → (∀ l1' o3, flg l1' (P ∧ ∀ o, 0 ≤ o → o < k → csI s o ≠ csI s k) → M_isWhole_144 X d l1' (k + 1) o3 m Q) → M_isWhole_154 X d l1 k l3 m Q := by
    intro P k hk0 hk1 f
    induction f with
    | zero =>
      intro l1 l3 h3 hf hfl hh
      have e : l3 = k := by omega
      rw [e] at hfl
      refine M_isWhole_154w hB ⟨by omega, by omega, fun _ => hh l1 _ hfl, fun z => by omega⟩
    | succ f ih =>
      intro l1 l3 h3 hf hfl hh
      have i1 := o7 l3 h3 (by omega)
      have i2 := o7 k hk0 hk1
      have e3 : m 96 l3 = csI s l3 := by rw [S3]
      have ek : m 96 k = csI s k := by rw [S3]
      have ext : csI s l3 ≠ csI s k → ((P ∧ ∀ o, 0 ≤ o → o < l3 → csI s o ≠ csI s k) ↔ (P ∧ ∀ o, 0 ≤ o → o < l3 + 1 → csI s o ≠ csI s k)) := fun hne => ⟨fun w => ⟨w.1, fun o q1 q2 => by
          by_cases z : o = l3
          · rw [z]; exact hne
          · exact w.2 o q1 (by omega)⟩, fun w => ⟨w.1, fun o q1 q2 => w.2 o q1 (by omega)⟩⟩
      have hl01 : l1 = 0 ∨ l1 = 1 := by rcases hfl with q | q <;> omega
      refine M_isWhole_154w hB ⟨by omega, by omega, fun z => by omega, fun _ => ⟨by omega, fun z => ?_, fun z => ⟨by omega, by omega, by omega, by omega, fun z2 => ?_, fun z2 => ?_⟩⟩⟩
      · refine ih 0 (l3 + 1) (by omega) (by omega) (Or.inr ⟨rfl, fun w => ?_⟩) hh
        rcases hfl with ⟨q, _⟩ | ⟨_, q⟩
        · omega
        · exact q ⟨w.1, fun o q1 q2 => w.2 o q1 (by omega)⟩
      · refine ih 0 (l3 + 1) (by omega) (by omega) (Or.inr ⟨rfl, fun w => ?_⟩) hh
        rw [e3, ek] at z2
        exact w.2 l3 h3 (by omega) z2
      · rw [e3, ek] at z2
        refine ih 1 (l3 + 1) (by omega) (by omega) (Or.inl ⟨rfl, ?_⟩) hh
        rcases hfl with ⟨_, q⟩ | ⟨q, _⟩
        · exact (ext z2).mp q
        · omega
  have ice1 : ∀ (P : Prop) (f : Nat) (l1 k : Int) (o3' : Option Int), 0 ≤ k → csNi s - k = f → flg l1 (P ∧ ∀ k', 0 ≤ k' → k' < k → ∀ o, 0 ≤ o → o < k' → csI s o ≠ csI s k') → (∀ l1', flg l1' (P ∧ noTw s) → Q l1' m) → M_isWhole_144 X d l1 k o3' m Q := by
    intro P f
    induction f with
    | zero =>
      intro l1 k o3' hk hf hfl hh
      have hl01 : l1 = 0 ∨ l1 = 1 := by rcases hfl with q | q <;> omega
      have e : k = csNi s := by omega
      refine M_isWhole_144w hB ⟨by omega, by omega, fun _ => ⟨hl01, hh l1 (hfl.c ?_)⟩, fun z => by omega⟩
      constructor
      · rintro ⟨w1, w2⟩
        exact ⟨w1, fun k' o q1 q2 q3 => w2 k' (by omega) (by omega) o q1 q2⟩
      · rintro ⟨w1, w2⟩
        exact ⟨w1, fun k' q1 q2 o q3 q4 => w2 k' o q3 q4 (by omega)⟩
    | succ f ih =>
      intro l1 k o3' hk hf hfl hh
      refine M_isWhole_144w hB ⟨by omega, by omega, fun z => by omega, fun _ => ?_⟩
      refine ice2 (P ∧ ∀ k', 0 ≤ k' → k' < k → ∀ o, 0 ≤ o → o < k' → csI s o ≠ csI s k') k hk (by omega) k.toNat l1 0 (by decide) (by omega) (hfl.c ⟨fun w => ⟨w, fun o q1 q2 => by omega⟩, fun w => w.1⟩) (fun l1' o3'' hfl' => ih l1' (k + 1) o3'' (by omega) (by omega) (hfl'.c ?_) hh)
      constructor
      · rintro ⟨⟨w1, w2⟩, w3⟩
        refine ⟨w1, fun k' q1 q2 o q3 q4 => ?_⟩
        by_cases z : k' = k
        · rw [z] at q4 ⊢; exact w3 o q3 q4
        · exact w2 k' q1 (by omega) o q3 q4
      · rintro ⟨w1, w2⟩
        exact ⟨⟨w1, fun k' q1 q2 => w2 k' q1 (by omega)⟩, w2 k hk (by omega)⟩
  -- bumps
  have bm2 : ∀ (P : Prop) (b : Int), 0 ≤ b → b < csNb s → ∀ (f : Nat) (l1 l3 : Int), 0 ≤ l3 → b - l3 = f → flg l1 (P ∧ ∀ o, 0 ≤ o → o < l3 → ¬ (csB s (4 * o) = csB s (4 * b) ∧ csB s (4 * o + 1) = csB s (4 * b + 1))) → (∀ l1' o3, flg l1' (P ∧ ∀ o, 0 ≤ o → o < b → ¬ (csB s (4 * o) = csB s (4 * b) ∧ csB s (4 * o + 1) = csB s (4 * b + 1))) → M_isWhole_30 X d l1' (b + 1) o3 m Q) → M_isWhole_69 X d l1 b l3 m Q := by
    intro P b hb0 hb1 f
    induction f with
    | zero =>
      intro l1 l3 h3 hf hfl hh
      have e : l3 = b := by omega
      rw [e] at hfl
      exact M_isWhole_69w hB ⟨by omega, by omega, fun _ => hh l1 _ hfl, fun z => by omega⟩
    | succ f ih =>
      intro l1 l3 h3 hf hfl hh
      have hl01 : l1 = 0 ∨ l1 = 1 := by rcases hfl with q | q <;> omega
      have r30 := rg l3 0 h3 (by omega) (by decide) (by decide)
      have r31 := rg l3 1 h3 (by omega) (by decide) (by decide)
      have rb0 := rg b 0 hb0 hb1 (by decide) (by decide)
      have rb1 := rg b 1 hb0 hb1 (by decide) (by decide)
      rw [Int.add_zero] at r30 rb0
      have e1 : m 95 (4 * l3) = csB s (4 * l3) := by rw [S2]
      have e2 : m 95 (4 * b) = csB s (4 * b) := by rw [S2]
      have e3 : m 95 (4 * l3 + 1) = csB s (4 * l3 + 1) := by rw [S2]
      have e4 : m 95 (4 * b + 1) = csB s (4 * b + 1) := by rw [S2]
      have ext : ¬ (csB s (4 * l3) = csB s (4 * b) ∧ csB s (4 * l3 + 1) = csB s (4 * b + 1)) → M_isWhole_69 X d 1 b (l3 + 1) m Q ∨ l1 = 0 := by
        intro hne
        rcases hfl with ⟨_, w⟩ | ⟨q, _⟩
        · refine Or.inl (ih 1 (l3 + 1) (by omega) (by omega) (Or.inl ⟨rfl, w.1, fun o q1 q2 => ?_⟩) hh)
          by_cases z : o = l3
          · rw [z]; exact hne
          · exact w.2 o q1 (by omega)
        · exact Or.inr q
      refine M_isWhole_69w hB ⟨by omega, by omega, fun z => by omega, fun _ => ⟨by omega, fun z => ?_, fun z => ⟨by omega, by omega, by omega, by omega, fun z2 => ?_, fun z2 => ⟨by omega, by omega, by omega, by omega, fun z3 => ?_, fun z3 => ?_⟩⟩⟩⟩
      · refine ih 0 (l3 + 1) (by omega) (by omega) (Or.inr ⟨rfl, fun w => ?_⟩) hh
        rcases hfl with ⟨q, _⟩ | ⟨_, q⟩
        · omega
        · exact q ⟨w.1, fun o q1 q2 => w.2 o q1 (by omega)⟩
      · rcases ext (fun w => z2 (by rw [e1, e2]; exact w.1)) with w | w
        · exact w
        · omega
      · refine ih 0 (l3 + 1) (by omega) (by omega) (Or.inr ⟨rfl, fun w => w.2 l3 h3 (by omega) ⟨?_, ?_⟩⟩) hh
        · rw [← e1, ← e2]; exact z2
        · rw [← e3, ← e4]; exact z3
      · rcases ext (fun w => z3 (by rw [e3, e4]; exact w.2)) with w | w
        · exact w
        · omega
  have bm1 : ∀ (P : Prop) (f : Nat) (l1 b : Int) (o3' : Option Int), 0 ≤ b → csNb s - b = f → flg l1 (P ∧ ∀ b', 0 ≤ b' → b' < b → csB s (4 * b' + 1) < csR s 0 ∧ ∀ o, 0 ≤ o → o < b' → ¬ (csB s (4 * o) = csB s (4 * b') ∧ csB s (4 * o + 1) = csB s (4 * b' + 1))) → (∀ l1', flg l1' ((P ∧ ∀ b', 0 ≤ b' → b' < csNb s → csB s (4 * b' + 1) < csR s 0 ∧ ∀ o, 0 ≤ o → o < b' → ¬ (csB s (4 * o) = csB s (4 * b') ∧ csB s (4 * o + 1) = csB s (4 * b' + 1))) ∧ noTw s) → Q l1' m) → M_isWhole_30 X d l1 b o3' m Q := by
    intro P f
    induction f with
    | zero =>
      intro l1 b o3' hb hf hfl hh
      have e : b = csNb s := by omega
      rw [e] at hfl
      refine M_isWhole_30w hB ⟨by omega, by omega, fun _ => ?_, fun z => by omega⟩
      exact ice1 _ (csNi s).toNat l1 0 o3' (by decide) (by omega) (hfl.c ⟨fun w => ⟨w, fun k' q1 q2 => by omega⟩, fun w => w.1⟩) hh
    | succ f ih =>
      intro l1 b o3' hb hf hfl hh
      have hl01 : l1 = 0 ∨ l1 = 1 := by rcases hfl with q | q <;> omega
      have rb1 := rg b 1 hb (by omega) (by decide) (by decide)
      have e4 : m 95 (4 * b + 1) = csB s (4 * b + 1) := by rw [S2]
      have e0 : m 94 0 = csR s 0 := by rw [S1]
      have go : ∀ l1', flg l1' ((P ∧ ∀ b', 0 ≤ b' → b' < b → csB s (4 * b' + 1) < csR s 0 ∧ ∀ o, 0 ≤ o → o < b' → ¬ (csB s (4 * o) = csB s (4 * b') ∧ csB s (4 * o + 1) = csB s (4 * b' + 1))) ∧ csB s (4 * b + 1) < csR s 0) → M_isWhole_69 X d l1' b 0 m Q := by
        intro l1' hfl'
        refine bm2 ((P ∧ ∀ b', 0 ≤ b' → b' < b → csB s (4 * b' + 1) < csR s 0 ∧ ∀ o, 0 ≤ o → o < b' → ¬ (csB s (4 * o) = csB s (4 * b') ∧ csB s (4 * o + 1) = csB s (4 * b' + 1))) ∧ csB s (4 * b + 1) < csR s 0) b hb (by omega) b.toNat l1' 0 (by decide) (by omega) (hfl'.c ⟨fun w => ⟨w, fun o q1 q2 => by omega⟩, fun w => w.1⟩) (fun l1'' o3'' hfl'' => ih l1'' (b + 1) o3'' (by omega) (by omega) (hfl''.c ?_) hh)
        constructor
        · rintro ⟨⟨⟨w1, w2⟩, w3⟩, w4⟩
          refine ⟨w1, fun b' q1 q2 => ?_⟩
          by_cases z : b' = b
          · rw [z]; exact ⟨w3, w4⟩
          · exact w2 b' q1 (by omega)
        · rintro ⟨w1, w2⟩
          exact ⟨⟨⟨w1, fun b' q1 q2 => w2 b' q1 (by omega)⟩, (w2 b hb (by omega)).1⟩, (w2 b hb (by omega)).2⟩
      refine M_isWhole_30w hB ⟨by omega, by omega, fun z => by omega, fun _ => ⟨by omega, fun z => ?_, fun z => ⟨by omega, by omega, by omega, fun z2 => ?_, fun z2 => ?_⟩⟩⟩
      · refine go 0 (Or.inr ⟨rfl, fun w => ?_⟩)
        rcases hfl with ⟨q, _⟩ | ⟨_, q⟩
        · omega
        · exact q w.1
      · exact go 0 (Or.inr ⟨rfl, fun w => by have := w.2; omega⟩)
      · refine go 1 (Or.inl ⟨rfl, ?_, by omega⟩)
        rcases hfl with ⟨_, q⟩ | ⟨q, _⟩
        · exact q
        · omega
  have fin : ∀ l1', flg l1' (((0 < csNm s ∧ csR s 1 < csR s 0) ∧ ∀ b', 0 ≤ b' → b' < csNb s → csB s (4 * b' + 1) < csR s 0 ∧ ∀ o, 0 ≤ o → o < b' → ¬ (csB s (4 * o) = csB s (4 * b') ∧ csB s (4 * o + 1) = csB s (4 * b' + 1))) ∧ noTw s) → Q l1' m := by
    intro l1' hfl
    rcases hfl with ⟨q, w⟩ | ⟨q, w⟩
    · rw [q]; exact hy ⟨w.1.1.1, w.1.1.2, w.1.2, w.2⟩
    · rw [q]; exact ho (fun hw => w ⟨⟨⟨hw.1, hw.2.1⟩, hw.2.2.1⟩, hw.2.2.2⟩)
  have e0 : m 94 0 = csR s 0 := by rw [S1]
  have e1 : m 94 1 = csR s 1 := by rw [S1]
  have start : ∀ l1', flg l1' (0 < csNm s ∧ csR s 1 < csR s 0) → M_isWhole_30 X d l1' 0 none m Q := fun l1' hfl => bm1 (0 < csNm s ∧ csR s 1 < csR s 0) (csNb s).toNat l1' 0 none (by decide) (by omega) (hfl.c ⟨fun w => ⟨w, fun b' q1 q2 => by omega⟩, fun w => w.1⟩) fin
  exact M_isWholew hB ⟨by omega, fun z => start 0 (Or.inr ⟨rfl, fun w => by omega⟩), fun z => ⟨by omega, by omega, fun z2 => start 0 (Or.inr ⟨rfl, fun w => by omega⟩), fun z2 => start 1 (Or.inl ⟨rfl, by omega, by omega⟩)⟩⟩
end MCan2
