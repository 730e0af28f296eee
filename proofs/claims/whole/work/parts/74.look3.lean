/-! ===== knows, shares, most ===== -/
def knF (q B : Int → Int) (x y : Int) : Nat → Int → Int → Int
  | 0, _, a => a
  | f + 1, l, a => knF q B x y f (l + 1) (if bit (q 18) l = 0 ∧ 0 ≤ q (x + 12) - q (l + 12) then min a (max (q 21) (y - B (4 * l + 3)) + q (x + 12) - q (l + 12)) else a)
def knE (y v : Int) : Int := if v < y then v else -1
def FKnows (K : Kn) (B q : Int → Int) (x y : Int) : Int := if x < 0 ∨ kNm K ≤ x ∨ y < 0 ∨ kNb K ≤ y ∨ bit (q 18) x = 1 ∨ bit (q 19) y = 1 then -1 else knE (kB K (4 * y)) (knF q B x (kB K (4 * y)) (kNm K).toNat 0 (kB K (4 * y)))
def wsF (q B : Int → Int) (x : Int) : Nat → Int → Int → Int
  | 0, _, a => a
  | f + 1, l, a => wsF q B x f (l + 1) (if bit (q 18) l = 0 ∧ (x = -1 ∨ q l = x) then a + B (4 * l) else a)
def FShares (K : Kn) (B q : Int → Int) (x y : Int) : Int := if x < 0 ∨ kNm K ≤ x ∨ y < 0 ∨ 999 < y then -1 else if bit (q 18) x = 1 then 0 else iDv (y * B (4 * x)) (wsF q B (-1) (kNm K).toNat 0 0)
def hvF (q B : Int → Int) : Nat → Int → Int → Int
  | 0, _, a => a
  | f + 1, l, a => hvF q B f (l + 1) (if bit (q 18) l = 0 ∧ (a = -1 ∨ B (4 * a) < B (4 * l)) then l else a)
def mdF (q : Int → Int) : Nat → Int → Int → Int
  | 0, _, a => a
  | f + 1, l, a => mdF q f (l + 1) (if q l = 1 then iO a (iSl 1 l) else a)
def FMost (K : Kn) (B q : Int → Int) (x : Int) : Int := if kNm K = 0 ∨ x < 0 ∨ 2 < x then -1 else if x = 0 then hvF q B (kNm K).toNat 0 (-1) else if x = 1 then mdF q (kNm K).toNat 0 0 else if wsF q B 0 (kNm K).toNat 0 0 < wsF q B 2 (kNm K).toNat 0 0 then 2 else if wsF q B 2 (kNm K).toNat 0 0 < wsF q B 0 (kNm K).toNat 0 0 then 0 else 1
theorem knF_ge {q B : Int → Int} {x y : Int} (h : y ≤ q 21) : ∀ (f : Nat) (l : Int), knF q B x y f l y = y := by
  intro f
  induction f with
  | zero => intro l; rfl
  | succ f ih =>
    intro l
    unfold knF
    have e : (if bit (q 18) l = 0 ∧ 0 ≤ q (x + 12) - q (l + 12) then min y (max (q 21) (y - B (4 * l + 3)) + q (x + 12) - q (l + 12)) else y) = y := by
      split
      · omega
      · rfl
    rw [e]
    exact ih (l + 1)
theorem wsF_r {q B : Int → Int} {x n : Int} (hB : ∀ k, 0 ≤ k → k < n → 1 ≤ B (4 * k) ∧ B (4 * k) ≤ 9) : ∀ (f : Nat) (l a : Int), 0 ≤ l → l + f ≤ n → a ≤ wsF q B x f l a ∧ wsF q B x f l a ≤ a + 9 * f := by
  intro f
  induction f with
  | zero => intro l a _ _; exact ⟨Int.le_refl _, by show a ≤ _; omega⟩
  | succ f ih =>
    intro l a h0 h1
    have hb := hB l h0 (by omega)
    unfold wsF
    have := ih (l + 1) (if bit (q 18) l = 0 ∧ (x = -1 ∨ q l = x) then a + B (4 * l) else a) (by omega) (by omega)
    split at this <;> split <;> omega
theorem wsF_pos {q B : Int → Int} {n k : Int} (hB : ∀ k, 0 ≤ k → k < n → 1 ≤ B (4 * k) ∧ B (4 * k) ≤ 9) (hk : bit (q 18) k = 0) : ∀ (f : Nat) (l a : Int), 0 ≤ l → l + f ≤ n → l ≤ k → k < l + f → a < wsF q B (-1) f l a := by
  intro f
  induction f with
  | zero => intro l a h0 h1 h2 h3; omega
  | succ f ih =>
    intro l a h0 h1 h2 h3
    have hb := hB l h0 (by omega)
    unfold wsF
    by_cases z : l = k
    · rw [z, hk, if_pos ⟨rfl, Or.inl rfl⟩]
      have := (wsF_r (q := q) (x := -1) hB f (k + 1) (a + B (4 * k)) (by omega) (by omega)).1
      rw [z] at hb
      omega
    · have h4 := ih (l + 1) (if bit (q 18) l = 0 ∧ ((-1 : Int) = -1 ∨ q l = -1) then a + B (4 * l) else a) (by omega) (by omega) (by omega) (by omega)
      have h5 : a ≤ (if bit (q 18) l = 0 ∧ ((-1 : Int) = -1 ∨ q l = -1) then a + B (4 * l) else a) := by split <;> omega
      omega
theorem wsF_add {q B : Int → Int} {n : Int} (hq : ∀ k, 0 ≤ k → k < n → 0 ≤ q k ∧ q k ≤ 2) : ∀ (f : Nat) (l a0 a1 a2 : Int), 0 ≤ l → l + f ≤ n → wsF q B 0 f l a0 + wsF q B 1 f l a1 + wsF q B 2 f l a2 = wsF q B (-1) f l (a0 + a1 + a2) := by
  intro f
  induction f with
  | zero => intro l a0 a1 a2 _ _; rfl
  | succ f ih =>
    intro l a0 a1 a2 h0 h1
    have hl := hq l h0 (by omega)
    unfold wsF
    rw [ih (l + 1) _ _ _ (by omega) (by omega)]
    congr 1
    by_cases z : bit (q 18) l = 0
    · have h3 : q l = 0 ∨ q l = 1 ∨ q l = 2 := by omega
      rcases h3 with e | e | e <;> simp [z, e] <;> omega
    · simp [z]
section Look3
variable {X : Cx} {d : Nat} {m : Mm} {Q : Int → Mm → Prop} {c : Nat} {K : Kn} {B q : Int → Int} {pf : Pf}
/-- the class reads a member -/
theorem CI.rd (hI : CI X m c K B pf q) {k : Int} (h0 : 0 ≤ k) (h1 : k < kNm K) : nib (m 17 0) k = B (4 * k) ∧ nib (m 17 1) k = q k ∧ nib (m 17 2) k = q (6 + k) ∧ nib (m 17 3) k = q (12 + k) ∧ bit (m 17 4) k = 1 - bit (q 18) k := by
  obtain ⟨b1, b2, b3, b4, -⟩ := hI.2.2.2.2.2 (by omega)
  obtain ⟨c1, c2, c3, c4⟩ := b4.1 k h0 h1
  exact ⟨c1, c2, c3, c4, by rw [b4.2.1]; exact ab_bit b1.2.2.2.2.1.1 b3.2.1 ⟨h0, h1⟩⟩
theorem O_rowOfKnowing_6_c (hB : Bsh X.2.2.1) (hI : CI X m c K B pf q) {x y : Int} (hx : 0 ≤ x ∧ x < kNm K) (hy : 0 ≤ y ∧ y ≤ 20) : ∀ (f : Nat) (l4 l5 : Int) (o6 o7 : Option Int), (-100 ≤ l4 ∧ l4 ≤ 100) → 0 ≤ l5 → kNm K - l5 = f → Q (knE y (knF q B x y f l5 l4)) m → O_rowOfKnowing_6 X (d + 1) x y l4 l5 o6 o7 m Q := by
  intro f
  obtain ⟨b1, b2, b3, b4, b5⟩ := hI.2.2.2.2.2 (by omega)
  have h4 := hI.2.2.2.1
  have hn := hI.2.2.2.2.1
  have hrow := b3.2.2.2.2.1
  have hrw := b1.2.2.2.2.1.2.2.2.2.2.1
  have e7 : m 17 7 = q 21 := b4.2.2.2.2.1
  induction f with
  | zero =>
    intro l4 l5 o6 o7 ha hl hf h
    have h : Q (if l4 < y then l4 else -1) m := h
    refine O_rowOfKnowing_6w hB ⟨c, hI.1, hI.2.2.1, by omega, by omega, fun _ => ⟨by omega, by omega, fun z => ?_, fun z => ?_⟩, fun z => by omega⟩
    · rw [if_neg (by omega)] at h
      exact h
    · rw [if_pos (by omega)] at h
      exact h
  | succ f ih =>
    intro l4 l5 o6 o7 ha hl hf h
    have hr := hI.rd hl (show l5 < kNm K by omega)
    have hrx := hI.rd hx.1 hx.2
    have e12 : q (12 + x) = q (x + 12) := by rw [Int.add_comm]
    have e12' : q (12 + l5) = q (l5 + 12) := by rw [Int.add_comm]
    have s1 := (b3.1 x hx.1 hx.2).2.2
    have s2 := (b3.1 l5 hl (by omega)).2.2
    rw [e12] at s1
    rw [e12'] at s2
    have hs := (b2 l5 hl (by omega)).2.2.2
    unfold knF at h
    refine O_rowOfKnowing_6w hB ⟨c, hI.1, hI.2.2.1, by omega, by omega, fun z => by omega, fun _ => T_seatOf_c hB (by decide) (T_seatOf_c hB (by decide) ?_)⟩
    rw [hr.2.2.2.1, hrx.2.2.2.1, e12, e12']
    refine T_isAboard_c hB (by decide) (fun z2 => q0e ?_) (fun z2 => q1e ⟨by omega, fun z3 => ?_, fun z3 => ⟨hI.2.2.1, K_sightOf_c hB hI.1 (by omega) ?_⟩⟩)
    · rw [if_neg (by omega)] at h
      exact ih l4 (l5 + 1) _ _ ha (by omega) (by omega) h
    · rw [if_neg (by omega)] at h
      exact ih l4 (l5 + 1) _ _ ha (by omega) (by omega) h
    · have es : m (c + 3) (4 * l5 + 3) = B (4 * l5 + 3) := b5 _ (by omega) (by omega)
      rw [if_pos ⟨by omega, by omega⟩] at h
      rw [es, e7]
      exact ⟨by omega, by omega, by omega, by omega, ih _ (l5 + 1) _ _ (by omega) (by omega) (by omega) h⟩
theorem V_knows_c (hB : Bsh X.2.2.1) (hI : CI X m c K B pf q) {x y : Int} (hx : R3 x) (hy : R3 y) (h : Q (FKnows K B q x y) m) : V_knows X (d + 12) x y m Q := by
  have hn := hI.mem
  have h4 := hI.2.2.2.1
  unfold FKnows at h
  refine V_knowsw hB (V_isMember_c hB hI.1 hI.2.1 hn hx (fun z1 z2 => q1e ?_) (fun z => q0e ?_))
  · obtain ⟨b1, b2, b3, b4, b5⟩ := hI.2.2.2.2.2 (by omega)
    have h3 : m c 3 = kNb K := b1.2.2.1.1
    have hnb := b1.2.2.2.2.1.2.1
    have hr := hI.rd z1 (by omega)
    have e5 : m 17 5 = q 19 := b4.2.2.1
    refine V_isBump_c hB hI.1 hI.2.1 (by omega) hy (fun z3 z4 => q1e ?_) (fun z => q0e ?_)
    · refine T_isAboard_c hB (by decide) (fun z5 => q0n ?_) (fun z5 => q1n ⟨fun z6 => ⟨c, hI.1, hI.2.1, K_ofBump_c hB hI.1 (by omega) ?_⟩, fun z6 => ?_⟩)
      · rw [if_pos (by omega)] at h
        exact h
      · have hk := b1.2.2.2.2.1.2.2.2.2.2.2.2.2 y (by omega) (by omega)
        have eb : m (c + 2) (4 * y + 0) = kB K (4 * y) := by rw [Int.add_zero]; exact b1.2.2.1.2.2.2.2 (4 * y) (by omega) (by omega)
        rw [eb]
        have hb5 : ¬ bit (q 19) y = 1 := by rw [e5] at z6; exact z6
        rw [if_neg (by omega)] at h
        refine O_rowOfKnowingw hB (O_rowOfKnowing_6_c hB hI ⟨z1, by omega⟩ (by omega) (kNm K).toNat _ 0 none none (by omega) (by omega) (by omega) h)
      · have hb5 : bit (q 19) y = 1 := by rw [e5] at z6; exact z6
        rw [if_pos (by omega)] at h
        exact h
    · rw [if_pos (by omega)] at h
      exact h
  · rw [if_pos (by omega)] at h
    exact h
theorem M_knows_66_c (hB : Bsh X.2.2.1) (hI : MI X m K B pf q) {x y : Int} (hx : 0 ≤ x ∧ x < kNm K) (hy : 0 ≤ y ∧ y < kNb K) : ∀ (f : Nat) (l3 l4 : Int) (o5 : Option Int), (-100 ≤ l3 ∧ l3 ≤ 100) → 0 ≤ l4 → kNm K - l4 = f → Q (knE (kB K (4 * y)) (knF q B x (kB K (4 * y)) f l4 l3)) m → M_knows_66 X (d + 2) x y l3 l4 o5 m Q := by
  intro f
  obtain ⟨b1, b2, b3⟩ := hI.2.2.2.2 (by omega)
  have h28 := hI.n
  have hn := hI.2.2.2.1
  have hrow := b3.2.2.2.2.1
  have hrw := b1.2.2.1.2.2.2.2.2.1
  have hnb := b1.2.2.1.2.1
  have hk := b1.2.2.1.2.2.2.2.2.2.2.2 y (by omega) (by omega)
  obtain ⟨e1, e2, e3, -, -⟩ := hI
  have eb : m 99 (4 * y + 0) = kB K (4 * y) := by rw [Int.add_zero, ← e1]; rfl
  induction f with
  | zero =>
    intro l3 l4 o5 ha hl hf h
    have h : Q (if l3 < kB K (4 * y) then l3 else -1) m := h
    refine M_knows_66w hB ⟨by omega, by omega, fun _ => M_ofBump_c hB (by omega) ⟨by omega, by omega, fun z => ?_, fun z => ?_⟩, fun z => by omega⟩
    · rw [if_neg (by omega)] at h
      exact h
    · rw [if_pos (by omega)] at h
      exact h
  | succ f ih =>
    intro l3 l4 o5 ha hl hf h
    have e12 : q (12 + x) = q (x + 12) := by rw [Int.add_comm]
    have e12' : q (12 + l4) = q (l4 + 12) := by rw [Int.add_comm]
    have s1 := (b3.1 x hx.1 hx.2).2.2
    have s2 := (b3.1 l4 hl (by omega)).2.2
    rw [e12] at s1
    rw [e12'] at s2
    have hs := (b2 l4 hl (by omega)).2.2.2
    have eB : m 100 (4 * l4 + 3) = B (4 * l4 + 3) := by rw [e2]
    unfold knF at h
    refine M_knows_66w hB ⟨by omega, by omega, fun z => by omega, fun _ => ⟨by omega, by omega, ?_⟩⟩
    rw [e3]
    refine M_isOn_c hB (fun z2 => q1e ⟨by omega, fun z3 => ?_, fun z3 => M_ofBump_c hB (by omega) (M_of_c hB (by omega) ?_)⟩) (fun z2 => q0e ?_)
    · rw [if_neg (by omega)] at h
      exact ih l3 (l4 + 1) _ ha (by omega) (by omega) h
    · rw [e3] at z2
      rw [if_pos ⟨z2, by omega⟩] at h
      rw [eb, eB, e3]
      exact ⟨by omega, by omega, by omega, by omega, ih _ (l4 + 1) _ (by omega) (by omega) (by omega) h⟩
    · rw [e3] at z2
      rw [if_neg (by omega)] at h
      exact ih l3 (l4 + 1) _ ha (by omega) (by omega) h
theorem M_knows_c (hB : Bsh X.2.2.1) (hI : MI X m K B pf q) {x y : Int} (hx : R3 x) (hy : R3 y) (h : Q (FKnows K B q x y) m) : M_knows X (d + 12) x y m Q := by
  have h28 := hI.n
  have hn := hI.2.2.2.1
  unfold FKnows at h
  refine M_knowsw hB (M_isMember_c hB (by omega) hx (fun z1 z2 => q1e ?_) (fun z => q0e ?_))
  · obtain ⟨b1, b2, b3⟩ := hI.2.2.2.2 (by omega)
    have h27 : m 83 27 = kNb K := by rw [← hI.1]; rfl
    have hnb := b1.2.2.1.2.1
    have e3 := hI.2.2.1
    have hrow := b3.2.2.2.2.1
    have hrw := b1.2.2.1.2.2.2.2.2.1
    refine M_isBump_c hB (by omega) hy (fun z3 z4 => q1e ?_) (fun z => q0e ?_)
    · refine M_isOn_c hB (fun z5 => q1e ?_) (fun z5 => q0e ?_)
      · rw [e3] at z5
        refine M_has_c (fun z6 => q0n ?_) (fun z6 => q1n ?_)
        · rw [e3] at z6
          have hk := b1.2.2.1.2.2.2.2.2.2.2.2 y (by omega) (by omega)
          have eb : m 99 (4 * y + 0) = kB K (4 * y) := by rw [Int.add_zero, ← hI.1]; rfl
          have e21 : m 101 21 = q 21 := by rw [e3]
          rw [if_neg (by omega)] at h
          refine M_ofBump_c hB (by omega) ⟨by omega, by omega, fun z7 => M_ofBump_c hB (by omega) ?_, fun z7 => ?_⟩
          · rw [eb]
            exact M_knows_66_c hB hI (by omega) (by omega) (kNm K).toNat _ 0 none (by omega) (by omega) (by omega) h
          · rw [eb, e3] at z7
            rw [knF_ge z7] at h
            unfold knE at h
            rw [if_neg (by omega)] at h
            exact h
        · rw [e3] at z6
          rw [if_pos (by omega)] at h
          exact h
      · rw [e3] at z5
        rw [if_pos (by omega)] at h
        exact h
    · rw [if_pos (by omega)] at h
      exact h
  · rw [if_pos (by omega)] at h
    exact h
/-! weights -/
theorem O_weightLeaning_5_c (hB : Bsh X.2.2.1) (hI : CI X m c K B pf q) (hp : 0 < kNm K) {x : Int} (hx : 0 ≤ x ∧ x ≤ 2) : ∀ (f : Nat) (l3 l4 : Int), 0 ≤ l4 → kNm K - l4 = f → Q (wsF q B x f l4 l3) m → O_weightLeaning_5 X (d + 1) x l3 l4 m Q := by
  intro f
  obtain ⟨b1, b2, b3, b4, b5⟩ := hI.2.2.2.2.2 (by omega)
  have h4 := hI.2.2.2.1
  have hn := hI.2.2.2.2.1
  induction f with
  | zero =>
    intro l3 l4 hl hf h
    exact O_weightLeaning_5w hB ⟨c, hI.1, hI.2.2.1, by omega, by omega, fun _ => h, fun z => by omega⟩
  | succ f ih =>
    intro l3 l4 hl hf h
    have hr := hI.rd hl (show l4 < kNm K by omega)
    have s1 := (b3.1 l4 hl (by omega)).1
    unfold wsF at h
    refine O_weightLeaning_5w hB ⟨c, hI.1, hI.2.2.1, by omega, by omega, fun z => by omega, fun _ => T_isAboard_c hB (by decide) (fun z2 => q0e ?_) (fun z2 => q1e (T_leanOf_c hB (by decide) ?_))⟩
    · rw [if_neg (by omega)] at h
      exact ih l3 (l4 + 1) (by omega) (by omega) h
    · rw [hr.2.1]
      refine ⟨by omega, by omega, fun z3 => ?_, fun z3 => T_weightOf_c hB (by decide) ?_⟩
      · rw [if_neg (by omega)] at h
        exact ih l3 (l4 + 1) (by omega) (by omega) h
      · rw [if_pos (by omega)] at h
        rw [hr.1]
        exact ih _ (l4 + 1) (by omega) (by omega) h
theorem O_weightLeaning_c (hB : Bsh X.2.2.1) (hI : CI X m c K B pf q) (hp : 0 < kNm K) {x : Int} (hx : 0 ≤ x ∧ x ≤ 2) (h : Q (wsF q B x (kNm K).toNat 0 0) m) : O_weightLeaning X (d + 1) x m Q := O_weightLeaningw hB (O_weightLeaning_5_c hB hI hp hx _ 0 0 (by omega) (by omega) h)
theorem M_weightOn_4_c (hB : Bsh X.2.2.1) (hI : MI X m K B pf q) (hp : 0 < kNm K) {x : Int} (hx : -1 ≤ x ∧ x ≤ 2) : ∀ (f : Nat) (l2 l3 : Int), 0 ≤ l3 → kNm K - l3 = f → Q (wsF q B x f l3 l2) m → M_weightOn_4 X (d + 2) x l2 l3 m Q := by
  intro f
  obtain ⟨b1, b2, b3⟩ := hI.2.2.2.2 (by omega)
  have h28 := hI.n
  have hn := hI.2.2.2.1
  obtain ⟨e1, e2, e3, -, -⟩ := hI
  induction f with
  | zero =>
    intro l2 l3 hl hf h
    exact M_weightOn_4w hB ⟨by omega, by omega, fun _ => h, fun z => by omega⟩
  | succ f ih =>
    intro l2 l3 hl hf h
    have s1 := (b3.1 l3 hl (by omega)).1
    have eB : m 100 (4 * l3 + 0) = B (4 * l3) := by rw [e2, Int.add_zero]
    have eq : m 101 l3 = q l3 := by rw [e3]
    unfold wsF at h
    refine M_weightOn_4w hB ⟨by omega, by omega, fun z => by omega, fun _ => M_isOn_c hB (fun z2 => q1e ⟨by omega, fun z3 => M_of_c hB (by omega) ?_, fun z3 => ⟨by omega, by omega, fun z4 => ?_, fun z4 => M_of_c hB (by omega) ?_⟩⟩) (fun z2 => q0e ?_)⟩
    · rw [e3] at z2
      rw [if_pos (by omega)] at h
      rw [eB]
      exact ih _ (l3 + 1) (by omega) (by omega) h
    · rw [if_neg (by omega)] at h
      exact ih l2 (l3 + 1) (by omega) (by omega) h
    · rw [e3] at z2
      rw [if_pos (by omega)] at h
      rw [eB]
      exact ih _ (l3 + 1) (by omega) (by omega) h
    · rw [e3] at z2
      rw [if_neg (by omega)] at h
      exact ih l2 (l3 + 1) (by omega) (by omega) h
theorem M_weightOn_c (hB : Bsh X.2.2.1) (hI : MI X m K B pf q) (hp : 0 < kNm K) {x : Int} (hx : -1 ≤ x ∧ x ≤ 2) (h : Q (wsF q B x (kNm K).toNat 0 0) m) : M_weightOn X (d + 2) x m Q := M_weightOnw hB (M_weightOn_4_c hB hI hp hx _ 0 0 (by omega) (by omega) h)
theorem V_shares_c (hB : Bsh X.2.2.1) (hI : CI X m c K B pf q) {x y : Int} (hx : R3 x) (hy : R3 y) (h : Q (FShares K B q x y) m) : V_shares X (d + 12) x y m Q := by
  have hn := hI.mem
  have h4 := hI.2.2.2.1
  unfold FShares at h
  refine V_sharesw hB (V_isMember_c hB hI.1 hI.2.1 hn hx (fun z1 z2 => q1e ⟨hy, fun z => ?_, fun z3 => ⟨fun z4 => ?_, fun z => ?_⟩⟩) (fun z => q0e ?_))
  · rw [if_pos (by omega)] at h
    exact h
  · obtain ⟨b1, b2, b3, b4, b5⟩ := hI.2.2.2.2.2 (by omega)
    have hp : 0 < kNm K := by omega
    have hr := hI.rd z1 (by omega)
    have hs := wsF_add (q := q) (B := B) (n := kNm K) (fun k h1 h2 => (b3.1 k h1 h2).1) (kNm K).toNat 0 0 0 0 (by omega) (by omega)
    have hb := wsF_r (q := q) (B := B) (x := -1) (n := kNm K) (fun k h1 h2 => (b2 k h1 h2).1) (kNm K).toNat 0 0 (by omega) (by omega)
    rw [if_neg (by omega)] at h
    refine O_weightLeaning_c hB hI hp (by omega) (O_weightLeaning_c hB hI hp (by omega) (O_weightLeaning_c hB hI hp (by omega) ?_))
    rw [hs, Int.add_zero, Int.add_zero]
    refine T_isAboard_c hB (by decide) (fun z5 => q0e ?_) (fun z5 => q1e ⟨by omega, fun z6 => ?_, fun z6 => T_weightOf_c hB (by decide) ⟨by omega, ?_⟩⟩)
    · rw [if_pos (by omega)] at h
      exact h
    · have := wsF_pos (q := q) (B := B) (n := kNm K) (k := x) (fun k h1 h2 => (b2 k h1 h2).1) (by omega) (kNm K).toNat 0 0 (by omega) (by omega) (by omega) (by omega)
      omega
    · rw [if_neg (by omega)] at h
      rw [hr.1]
      exact h
  · rw [if_pos (by omega)] at h
    exact h
  · rw [if_pos (by omega)] at h
    exact h
theorem M_shares_c (hB : Bsh X.2.2.1) (hI : MI X m K B pf q) {x y : Int} (hx : R3 x) (hy : R3 y) (h : Q (FShares K B q x y) m) : M_shares X (d + 12) x y m Q := by
  have h28 := hI.n
  have hn := hI.2.2.2.1
  unfold FShares at h
  refine M_sharesw hB (M_isMember_c hB (by omega) hx (fun z1 z2 => q1e (M_in_c hy (by decide) (by decide) (fun z3 z4 => q1n ?_) (fun z => q0n ?_))) (fun z => q0e ?_))
  · obtain ⟨b1, b2, b3⟩ := hI.2.2.2.2 (by omega)
    have e3 := hI.2.2.1
    have eB : m 100 (4 * x + 0) = B (4 * x) := by rw [hI.2.1, Int.add_zero]
    have hb := wsF_r (q := q) (B := B) (x := -1) (n := kNm K) (fun k h1 h2 => (b2 k h1 h2).1) (kNm K).toNat 0 0 (by omega) (by omega)
    rw [if_neg (by omega)] at h
    refine M_isOn_c hB (fun z5 => q1e (M_of_c hB (by omega) (M_weightOn_c hB hI (by omega) (by omega) ⟨?_, ?_⟩))) (fun z5 => q0e ?_)
    · rw [e3] at z5
      have := wsF_pos (q := q) (B := B) (n := kNm K) (k := x) (fun k h1 h2 => (b2 k h1 h2).1) (by omega) (kNm K).toNat 0 0 (by omega) (by omega) (by omega) (by omega)
      omega
    · rw [e3] at z5
      rw [if_neg (by omega)] at h
      rw [eB]
      exact h
    · rw [e3] at z5
      rw [if_pos (by omega)] at h
      exact h
  · rw [if_pos (by omega)] at h
    exact h
  · rw [if_pos (by omega)] at h
    exact h
theorem O_heaviest_4_c (hB : Bsh X.2.2.1) (hI : CI X m c K B pf q) (hp : 0 < kNm K) : ∀ (f : Nat) (l2 l3 : Int), 0 ≤ l3 → kNm K - l3 = f → (l2 = -1 ∨ (0 ≤ l2 ∧ l2 < kNm K)) → Q (hvF q B f l3 l2) m → O_heaviest_4 X (d + 1) l2 l3 m Q := by
  intro f
  obtain ⟨b1, b2, b3, b4, b5⟩ := hI.2.2.2.2.2 (by omega)
  have h4 := hI.2.2.2.1
  have hn := hI.2.2.2.2.1
  induction f with
  | zero =>
    intro l2 l3 hl hf h2 h
    exact O_heaviest_4w hB ⟨c, hI.1, hI.2.2.1, by omega, by omega, fun _ => h, fun z => by omega⟩
  | succ f ih =>
    intro l2 l3 hl hf h2 h
    have hr := hI.rd hl (show l3 < kNm K by omega)
    have w3 := (b2 l3 hl (by omega)).1
    unfold hvF at h
    refine O_heaviest_4w hB ⟨c, hI.1, hI.2.2.1, by omega, by omega, fun z => by omega, fun _ => T_isAboard_c hB (by decide) (fun z2 => q0e ?_) (fun z2 => q1e ⟨by omega, fun z3 => ?_, fun z3 => T_weightOf_c hB (by decide) (T_weightOf_c hB (by decide) ?_)⟩)⟩
    · rw [if_neg (by omega)] at h
      exact ih l2 (l3 + 1) (by omega) (by omega) h2 h
    · rw [if_pos (by omega)] at h
      exact ih l3 (l3 + 1) (by omega) (by omega) (by omega) h
    · have hr2 := hI.rd (k := l2) (by omega) (by omega)
      have w2 := (b2 l2 (by omega) (by omega)).1
      rw [hr.1, hr2.1]
      refine ⟨by omega, by omega, fun z4 => ?_, fun z4 => ?_⟩
      · rw [if_neg (by omega)] at h
        exact ih l2 (l3 + 1) (by omega) (by omega) h2 h
      · rw [if_pos (by omega)] at h
        exact ih l3 (l3 + 1) (by omega) (by omega) (by omega) h
theorem O_moderates_4_c (hB : Bsh X.2.2.1) (hI : CI X m c K B pf q) (hp : 0 < kNm K) : ∀ (f : Nat) (l2 l3 : Int), 0 ≤ l3 → kNm K - l3 = f → Q (mdF q f l3 l2) m → O_moderates_4 X (d + 1) l2 l3 m Q := by
  intro f
  obtain ⟨b1, b2, b3, b4, b5⟩ := hI.2.2.2.2.2 (by omega)
  have h4 := hI.2.2.2.1
  have hn := hI.2.2.2.2.1
  induction f with
  | zero =>
    intro l2 l3 hl hf h
    exact O_moderates_4w hB ⟨c, hI.1, hI.2.2.1, by omega, by omega, fun _ => h, fun z => by omega⟩
  | succ f ih =>
    intro l2 l3 hl hf h
    have hr := hI.rd hl (show l3 < kNm K by omega)
    have s1 := (b3.1 l3 hl (by omega)).1
    unfold mdF at h
    refine O_moderates_4w hB ⟨c, hI.1, hI.2.2.1, by omega, by omega, fun z => by omega, fun _ => T_leanOf_c hB (by decide) ?_⟩
    rw [hr.2.1]
    refine ⟨by omega, fun z2 => ?_, fun z2 => ?_⟩
    · rw [if_neg (by omega)] at h
      exact ih l2 (l3 + 1) (by omega) (by omega) h
    · rw [if_pos (by omega)] at h
      exact ih _ (l3 + 1) (by omega) (by omega) h
theorem O_moderates_c (hB : Bsh X.2.2.1) (hI : CI X m c K B pf q) (hp : 0 < kNm K) (h : Q (mdF q (kNm K).toNat 0 0) m) : O_moderates X (d + 1) m Q := O_moderatesw hB (O_moderates_4_c hB hI hp _ 0 0 (by omega) (by omega) h)
theorem V_most_c (hB : Bsh X.2.2.1) (hI : CI X m c K B pf q) {x : Int} (hx : R3 x) (h : Q (FMost K B q x) m) : V_most X (d + 12) x m Q := by
  have hn := hI.mem
  have h4 := hI.2.2.2.1
  unfold FMost at h
  refine V_mostw hB (V_hasCanton_c hB hI.1 hI.2.1 hn (fun hp => q1n ⟨hx, fun z => ?_, fun z => ?_, fun z => ?_, fun z => ?_⟩) (fun h0 => q0n ?_))
  · rw [if_neg (by omega), if_pos (by omega)] at h
    exact O_heaviestw hB (O_heaviest_4_c hB hI (by omega) _ (-1) 0 (by omega) (by omega) (by omega) h)
  · rw [if_neg (by omega), if_neg (by omega), if_pos (by omega)] at h
    exact O_moderates_c hB hI (by omega) h
  · obtain ⟨b1, b2, b3, b4, b5⟩ := hI.2.2.2.2.2 (by omega)
    rw [if_neg (by omega), if_neg (by omega), if_neg (by omega)] at h
    have r0 := wsF_r (q := q) (B := B) (x := 0) (n := kNm K) (fun k h1 h2 => (b2 k h1 h2).1) (kNm K).toNat 0 0 (by omega) (by omega)
    have r2 := wsF_r (q := q) (B := B) (x := 2) (n := kNm K) (fun k h1 h2 => (b2 k h1 h2).1) (kNm K).toNat 0 0 (by omega) (by omega)
    refine O_weightLeaning_c hB hI (by omega) (by omega) (O_weightLeaning_c hB hI (by omega) (by omega) (J_comparew hB ⟨by omega, by omega, fun z1 => ⟨fun z2 => ?_, fun z2 => ?_⟩, fun z1 => ?_⟩))
    · rw [if_pos (by omega)] at h
      exact h
    · rw [if_neg (by omega), if_neg (by omega)] at h
      exact h
    · rw [if_neg (by omega), if_pos (by omega)] at h
      exact h
  · rw [if_pos (by omega)] at h
    exact h
  · rw [if_pos (by omega)] at h
    exact h
theorem M_most_25_c (hB : Bsh X.2.2.1) (hI : MI X m K B pf q) (hp : 0 < kNm K) {x : Int} (hx : 0 ≤ x ∧ x ≤ 2) : ∀ (f : Nat) (l2 l3 l4 : Int), 0 ≤ l4 → kNm K - l4 = f → (l2 = -1 ∨ (0 ≤ l2 ∧ l2 < kNm K)) → R3 l3 → (∀ v2 v3, v2 = hvF q B f l4 l2 → v3 = mdF q f l4 l3 → Q (if x = 0 then v2 else if x = 1 then v3 else if wsF q B 0 (kNm K).toNat 0 0 < wsF q B 2 (kNm K).toNat 0 0 then 2 else if wsF q B 2 (kNm K).toNat 0 0 < wsF q B 0 (kNm K).toNat 0 0 then 0 else 1) m) → M_most_25 X (d + 3) x l2 l3 l4 m Q := by
  intro f
  obtain ⟨b1, b2, b3⟩ := hI.2.2.2.2 (by omega)
  have h28 := hI.n
  have hn := hI.2.2.2.1
  have e2 := hI.2.1
  have e3 := hI.2.2.1
  have r0 := wsF_r (q := q) (B := B) (x := 0) (n := kNm K) (fun k h1 h2 => (b2 k h1 h2).1) (kNm K).toNat 0 0 (by omega) (by omega)
  have r2 := wsF_r (q := q) (B := B) (x := 2) (n := kNm K) (fun k h1 h2 => (b2 k h1 h2).1) (kNm K).toNat 0 0 (by omega) (by omega)
  induction f with
  | zero =>
    intro l2 l3 l4 hl hf h2 hr h
    have h := h l2 l3 rfl rfl
    refine M_most_25w hB ⟨by omega, by omega, fun _ => M_weightOn_c hB hI hp (by omega) (M_weightOn_c hB hI hp (by omega) ⟨by omega, fun z0 => ⟨fun z1 => ⟨by omega, fun z2 => ⟨fun z3 => ?_, fun z3 => ?_⟩, fun z2 => ?_⟩, fun z1 => ?_⟩, fun z0 => ?_⟩), fun z => by omega⟩
    · rw [if_neg (by omega), if_neg (by omega), if_neg (by omega), if_neg (by omega)] at h
      exact h
    · rw [if_neg (by omega), if_neg (by omega), if_neg (by omega), if_pos (by omega)] at h
      exact h
    · rw [if_neg (by omega), if_neg (by omega), if_pos (by omega)] at h
      exact h
    · rw [if_neg (by omega), if_pos (by omega)] at h
      exact h
    · rw [if_pos (by omega)] at h
      exact h
  | succ f ih =>
    intro l2 l3 l4 hl hf h2 hr h
    have s1 := (b3.1 l4 hl (by omega)).1
    have eq : m 101 l4 = q l4 := by rw [e3]
    have eB : ∀ k, m 100 (4 * k + 0) = B (4 * k) := fun k => by rw [e2, Int.add_zero]
    have w4 := (b2 l4 hl (by omega)).1
    have nx : ∀ y, (y = -1 ∨ (0 ≤ y ∧ y < kNm K)) → (if bit (q 18) l4 = 0 ∧ (l2 = -1 ∨ B (4 * l2) < B (4 * l4)) then l4 else l2) = y → (m 101 l4 ≠ 1 → M_most_25 X (d + 3) x y (iO l3 0) (l4 + 1) m Q) ∧ (m 101 l4 = 1 → M_most_25 X (d + 3) x y (iO l3 (iSl 1 l4)) (l4 + 1) m Q) := by
      intro y hy ey
      refine ⟨fun z => ih y _ (l4 + 1) (by omega) (by omega) hy (i32R _) (fun v2 v3 g2 g3 => h v2 v3 ?_ ?_), fun z => ih y _ (l4 + 1) (by omega) (by omega) hy (i32R _) (fun v2 v3 g2 g3 => h v2 v3 ?_ ?_)⟩
      · unfold hvF; rw [ey]; exact g2
      · unfold mdF; rw [if_neg (by omega), ← iO_0 hr]; exact g3
      · unfold hvF; rw [ey]; exact g2
      · unfold mdF; rw [if_pos (by omega)]; exact g3
    refine M_most_25w hB ⟨by omega, by omega, fun z => by omega, fun _ => M_isOn_c hB (fun z2 => q1e ⟨by omega, fun z3 => ?_, fun z3 => M_of_c hB (by omega) (M_of_c hB (by omega) ?_)⟩) (fun z2 => q0e ?_)⟩
    · rw [e3] at z2
      exact M_most_64w hB ⟨by omega, by omega, nx l4 (by omega) (if_pos ⟨z2, Or.inl z3⟩)⟩
    · rw [e3] at z2
      have w2 := (b2 l2 (by omega) (by omega)).1
      rw [eB, eB]
      refine ⟨by omega, by omega, fun z4 => ?_, fun z4 => ?_⟩
      · exact M_most_69w hB ⟨by omega, by omega, nx l2 h2 (if_neg (by omega))⟩
      · exact M_most_64w hB ⟨by omega, by omega, nx l4 (by omega) (if_pos ⟨z2, Or.inr z4⟩)⟩
    · rw [e3] at z2
      exact M_most_69w hB ⟨by omega, by omega, nx l2 h2 (if_neg (by omega))⟩
theorem M_most_c (hB : Bsh X.2.2.1) (hI : MI X m K B pf q) {x : Int} (hx : R3 x) (h : Q (FMost K B q x) m) : M_most X (d + 12) x m Q := by
  have h28 := hI.n
  have hn := hI.2.2.2.1
  unfold FMost at h
  refine M_mostw hB ⟨by omega, fun z => ?_, fun hp => M_in_c hx (by decide) (by decide) (fun z1 z2 => q1n ?_) (fun z => q0n ?_)⟩
  · rw [if_pos (by omega)] at h
    exact h
  · rw [if_neg (by omega)] at h
    exact M_most_25_c hB hI (by omega) ⟨z1, z2⟩ (kNm K).toNat (-1) 0 0 (by omega) (by omega) (by omega) (by decide) (fun v2 v3 g2 g3 => by rw [g2, g3]; exact h)
  · rw [if_pos (by omega)] at h
    exact h
end Look3
