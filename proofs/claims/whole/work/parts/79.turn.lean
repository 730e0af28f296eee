/-! ===== turn ===== -/
/-- the best of a stretch of rows: the row, how many are moved -/
def sqF (R M : Int → Int) (O : Int → Bool) : Nat → Int → Int × Int → Int × Int
  | 0, _, s => s
  | f + 1, k, s => sqF R M O f (k + 1) (if O k && (decide (s.1 = -1) || decide (M k < s.2)) then (R k, M k) else s)
theorem sqF_add (R M : Int → Int) (O : Int → Bool) : ∀ (a b : Nat) (k : Int) (s : Int × Int), sqF R M O (a + b) k s = sqF R M O b (k + a) (sqF R M O a k s) := by
  intro a
  induction a with
  | zero => intro b k s; rw [Nat.zero_add]; show _ = sqF R M O b (k + 0) s; rw [Int.add_zero]
  | succ a ih =>
    intro b k s
    have e : a + 1 + b = (a + b) + 1 := by omega
    have e2 : k + 1 + (a : Int) = k + ((a + 1 : Nat) : Int) := by omega
    rw [e]
    show sqF R M O (a + b) (k + 1) _ = sqF R M O b (k + ((a + 1 : Nat) : Int)) (sqF R M O a (k + 1) _)
    rw [ih b (k + 1), e2]
def sqI (R : Int → Int) (k : Int) (s : Int × Int) : Prop := s.1 = -1 ∨ ∃ k', 0 ≤ k' ∧ k' < k ∧ s.1 = R k'
theorem sqF_inv {R M : Int → Int} {O : Int → Bool} : ∀ (f : Nat) (k : Int) (s : Int × Int), 0 ≤ k → sqI R k s → sqI R (k + f) (sqF R M O f k s) := by
  intro f
  induction f with
  | zero => intro k s h0 h; show sqI R (k + 0) s; rw [Int.add_zero]; exact h
  | succ f ih =>
    intro k s h0 h
    unfold sqF
    have e : k + ((f + 1 : Nat) : Int) = k + 1 + f := by omega
    rw [e]
    refine ih (k + 1) _ (by omega) ?_
    split
    · exact Or.inr ⟨k, h0, by omega, rfl⟩
    · rcases h with h | ⟨k', a, b, c⟩
      · exact Or.inl h
      · exact Or.inr ⟨k', a, by omega, c⟩
def rowP : Nat → Int → Int
  | 0, _ => 0
  | x + 1, p => 10 * rowP x (p / 3) + p % 3
def mnP (q : Int → Int) : Nat → Int → Int
  | 0, _ => 0
  | x + 1, p => mnP q x (p / 3) + (if p % 3 = q x then 0 else 1)
def dgP : Nat → Int → Int → Int
  | 0, _, _ => 0
  | x + 1, p, j => if j = x then p % 3 else dgP x (p / 3) j
theorem dgP_r : ∀ (x : Nat) (p j : Int), 0 ≤ dgP x p j ∧ dgP x p j ≤ 2 := by
  intro x
  induction x with
  | zero => intro p j; exact ⟨Int.le_refl _, by show (0 : Int) ≤ 2; decide⟩
  | succ x ih =>
    intro p j
    unfold dgP
    split
    · omega
    · exact ih _ _
theorem mnP_r (q : Int → Int) : ∀ (x : Nat) (p : Int), 0 ≤ mnP q x p ∧ mnP q x p ≤ x := by
  intro x
  induction x with
  | zero => intro p; exact ⟨Int.le_refl _, Int.le_refl _⟩
  | succ x ih =>
    intro p
    have := ih (p / 3)
    unfold mnP
    split <;> omega
theorem p3 : ∀ x : Nat, x ≤ 6 → (3 : Nat) ^ x ≤ 729 := by decide
theorem rowP_s {n : Nat} (hn : n ≤ 6) {k : Int} (h0 : 0 ≤ k) (h1 : k + 1 < 3 ^ n) : 0 ≤ rowP n k ∧ rowP n k < rowP n (k + 1) := by
  obtain ⟨a, rfl⟩ : ∃ a : Nat, k = (a : Int) := ⟨k.toNat, by omega⟩
  have h2 := p3 n hn
  have h3 : ((3 : Int) ^ n) = ((3 ^ n : Nat) : Int) := by simp
  exact (by decide +kernel : ∀ n : Nat, n ≤ 6 → ∀ a : Nat, a < 729 → a + 1 < 3 ^ n → 0 ≤ rowP n (a : Int) ∧ rowP n (a : Int) < rowP n ((a : Int) + 1)) n hn a (by omega) (by omega)
theorem rowP_r {n : Nat} (hn : n ≤ 6) {k : Int} (h0 : 0 ≤ k) (h1 : k < 3 ^ n) : 0 ≤ rowP n k ∧ rowP n k ≤ 222222 := by
  obtain ⟨a, rfl⟩ : ∃ a : Nat, k = (a : Int) := ⟨k.toNat, by omega⟩
  have h2 := p3 n hn
  have h3 : ((3 : Int) ^ n) = ((3 ^ n : Nat) : Int) := by simp
  exact (by decide +kernel : ∀ n : Nat, n ≤ 6 → ∀ a : Nat, a < 729 → 0 ≤ rowP n (a : Int) ∧ rowP n (a : Int) ≤ 222222) n hn a (by omega)
theorem rowP_m {n : Nat} (hn : n ≤ 6) : ∀ (f : Nat) (k : Int), 0 ≤ k → k + f + 1 < 3 ^ n → rowP n k < rowP n (k + f + 1) := by
  intro f
  induction f with
  | zero => intro k h0 h1; have := (rowP_s hn h0 (by omega)).2; have e : k + ((0 : Nat) : Int) + 1 = k + 1 := by omega
            rw [e]; exact this
  | succ f ih =>
    intro k h0 h1
    have a1 := ih k h0 (by omega)
    have a2 := (rowP_s hn (k := k + f + 1) (by omega) (by omega)).2
    have e : k + ((f + 1 : Nat) : Int) + 1 = k + f + 1 + 1 := by omega
    rw [e]
    omega
theorem rowP_lt {n : Nat} (hn : n ≤ 6) {k k' : Int} (h0 : 0 ≤ k') (h1 : k' < k) (h2 : k < 3 ^ n) : rowP n k' < rowP n k := by
  have := rowP_m hn (k - k' - 1).toNat k' h0 (by omega)
  have e : k' + ((k - k' - 1).toNat : Int) + 1 = k := by omega
  rw [e] at this
  exact this
def okL (K : Kn) (B : Int → Int) (pf : Pf) (q : Int → Int) (x : Int) (n : Nat) (k : Int) : Bool := decide (sdBy K B pf q (dgP n k) = x)
def trS (K : Kn) (B : Int → Int) (pf : Pf) (q : Int → Int) (x : Int) : Int × Int := sqF (rowP (kNm K).toNat) (mnP q (kNm K).toNat) (okL K B pf q x (kNm K).toNat) (3 ^ (kNm K).toNat) 0 (-1, -1)
def FTurn (K : Kn) (B : Int → Int) (pf : Pf) (q : Int → Int) (x y : Int) : Int := if kNm K = 0 ∨ x < 0 ∨ 2 < x ∨ y < 0 ∨ 1 < y then -1 else if y = 0 then (trS K B pf q x).2 else (trS K B pf q x).1
/-- what the reference has found so far -/
def mS (m : Mm) (s : Int × Int) : Prop := m 83 41 = s.1 ∧ (s.1 ≠ -1 → m 83 42 = s.2)
theorem leanS_ok {K : Kn} {q g : Int → Int} (h : Qok K q) (hn : kNm K ≤ 6) (hg : ∀ k, 0 ≤ k → k < kNm K → 0 ≤ g k ∧ g k ≤ 2) : Qok K (leanS q (kNm K) g) := h.lean hn (fun k h1 h2 => by unfold leanS; rw [if_pos ⟨h1, h2⟩]; exact hg k h1 h2) (fun j hj => by unfold leanS; rw [if_neg (by omega)])
section Turn
variable {X : Cx} {d : Nat} {m : Mm} {Q : Int → Mm → Prop} {Q0 : Mm → Prop} {c : Nat} {K : Kn} {B q : Int → Int} {pf : Pf}
/-- a row is tried -/
theorem M_tryRow_c (hB : Bsh X.2.2.1) {s : Int × Int} {row mny : Int} (hs : mS m s) (hrow : 0 ≤ row ∧ row ≤ 1000000) (hm : 0 ≤ mny ∧ mny ≤ 6) (hs1 : s.1 = -1 ∨ (0 ≤ s.1 ∧ s.1 < row)) (hs2 : s.1 ≠ -1 → 0 ≤ s.2 ∧ s.2 ≤ 6) (h : ∀ m', (∀ k, k ≠ 41 → k ≠ 42 → m' 83 k = m 83 k) → Fr [83] m m' → mS m' (if (decide (s.1 = -1) || decide (mny < s.2)) then (row, mny) else s) → Q0 m') : M_tryRow X d row mny m Q0 := by
  have e41 := hs.1
  have set : (decide (s.1 = -1) || decide (mny < s.2)) = true → Q0 (up (up m 83 41 row) 83 42 mny) := fun e => by
    refine h _ (fun k k1 k2 => by rw [up_ne (Or.inr k2), up_ne (Or.inr k1)]) (((Fr.rf _ _).up (by simp)).up (by simp)) ?_
    rw [e, if_pos rfl]
    exact ⟨by rw [up_ne (Or.inr (by decide)), up_same], fun _ => up_same _ _ _ _⟩
  have keep : (decide (s.1 = -1) || decide (mny < s.2)) = false → Q0 m := fun e => by
    refine h m (fun k _ _ => rfl) (Fr.rf _ _) ?_
    rw [e]
    exact hs
  refine M_tryRoww hB ⟨by omega, fun z => set (by rw [decide_eq_true (p := s.1 = -1) (by omega)]; rfl), fun z => ?_⟩
  have e42 := hs.2 (by omega)
  have r2 := hs2 (by omega)
  refine ⟨by omega, by omega, fun z2 => set (by rw [decide_eq_true (p := mny < s.2) (by omega), Bool.or_true]), fun z2 => ⟨fun z3 => keep ?_, fun z3 => ⟨by omega, fun z4 => keep ?_, fun z4 => by omega⟩⟩⟩
  · rw [decide_eq_false (p := s.1 = -1) (by omega), decide_eq_false (p := mny < s.2) (by omega)]; rfl
  · rw [decide_eq_false (p := s.1 = -1) (by omega), decide_eq_false (p := mny < s.2) (by omega)]; rfl
theorem M_tryLeans_15_c (hB : Bsh X.2.2.1) {m0 : Mm} (hI : MI X m0 K B pf q) (hp : 0 < kNm K) {g : Int → Int} {x y z u : Int} (hg : ∀ k, 0 ≤ k → k < kNm K → m0 105 k = g k) (hgr : ∀ k, 0 ≤ g k ∧ g k ≤ 2) (hy : 0 ≤ y ∧ y ≤ 2) {s : Int × Int} (hs : mS m0 s) (hrow : 0 ≤ z ∧ z ≤ 1000000) (hm : 0 ≤ u ∧ u ≤ 6) (hs1 : s.1 = -1 ∨ (0 ≤ s.1 ∧ s.1 < z)) (hs2 : s.1 ≠ -1 → 0 ≤ s.2 ∧ s.2 ≤ 6) : ∀ (f : Nat) (m : Mm) (l5 : Int), 0 ≤ l5 → kNm K - l5 = f → TrM m0 m → (∀ j, m 101 j = if 0 ≤ j ∧ j < l5 then g j else q j) → (∀ k, k ≠ 34 → m 83 k = m0 83 k) → m 105 = m0 105 → (∀ m', SmM m0 m' → m' 105 = m0 105 → mS m' (if decide (sdBy K B pf q g = y) && (decide (s.1 = -1) || decide (u < s.2)) then (z, u) else s) → Q0 m') → M_tryLeans_15 X (d + 10) x y z u l5 m Q0 := by
  intro f
  obtain ⟨b1, b2, b3⟩ := hI.2.2.2.2 hp
  have hn := hI.2.2.2.1
  have ew := hI.w
  induction f with
  | zero =>
    intro m l5 hl hf hT h1 hk h105 h
    have hv := b1.trm hT
    have e28 : m 83 28 = kNm K := by rw [← hv.1]; rfl
    have q1 : m 101 = leanS q (kNm K) g := by
      funext j
      rw [h1 j]
      unfold leanS
      have e : l5 = kNm K := by omega
      rw [e]
    have hQ := leanS_ok b3 hn.2 (g := g) (fun k _ _ => hgr k)
    refine M_tryLeans_15w hB ⟨by omega, by omega, fun _ => M_layEnd_c hB b1 hT (by rw [ew]; exact b2.w) (by rw [q1]; exact hQ) (fun m3 s1 s2 s3 s4 s5 s6 => ?_), fun z => by omega⟩
    have k3 := (b1.sm s1).1
    have e98 : m3 98 0 = kR K 0 := by rw [← k3]; rfl
    have hw := b1.2.2.1.2.2.1
    rw [q1, ew] at s2
    have hcl := (end_ok (wt := wtB B) (pf := pf) b1.2.2.1 hQ).col b1.2.2.1
    have e105 : m3 105 = m0 105 := (s6 105 (by decide)).trans h105
    have hms : mS m3 s := by
      unfold mS
      rw [s5 41 (by decide) (by decide) (by decide), s5 42 (by decide) (by decide) (by decide), hk 41 (by decide), hk 42 (by decide)]
      exact hs
    refine M_sideOf_c hB (by omega) (by omega) ?_
    rw [k3, s2]
    have hsr := sideA_r K (endA K (wtB B) pf (leanS q (kNm K) g) 22)
    refine ⟨by omega, by omega, fun e => ?_, fun e => ?_⟩
    · have e' : ¬ sdBy K B pf q g = y := e
      have := h m3 s1 e105
      rw [decide_eq_false e', Bool.false_and] at this
      exact this hms
    · have e' : sdBy K B pf q g = y := e
      refine M_tryRow_c hB hms hrow hm hs1 hs2 (fun m' g1 g2 g3 => ?_)
      have := h m' (s1.tr ⟨fun k hk => g1 k (fun z => hk (by unfold scF; omega)) (fun z => hk (by unfold scF; omega)), g2.wd (by decide)⟩) ((g2 105 (by decide)).trans e105)
      rw [decide_eq_true e', Bool.true_and] at this
      exact this g3
  | succ f ih =>
    intro m l5 hl hf hT h1 hk h105 h
    have hv := b1.trm hT
    have e28 : m 83 28 = kNm K := by rw [← hv.1]; rfl
    refine M_tryLeans_15w hB ⟨by omega, by omega, fun z => by omega, fun _ => ⟨by omega, by omega, ?_⟩⟩
    have e5 : m 105 l5 = g l5 := by rw [h105]; exact hg l5 hl (by omega)
    rw [e5]
    refine ih _ (l5 + 1) (by omega) (by omega) (hT.set (by omega)) (fun j => ?_) (fun k z => by rw [up_ne (Or.inl (by decide))]; exact hk k z) (by rw [up_off (by decide)]; exact h105) h
    rw [up_at]
    by_cases z : j = l5
    · rw [if_pos z, if_pos (by omega), z]
    · rw [if_neg z, h1 j]
      by_cases z2 : 0 ≤ j ∧ j < l5
      · rw [if_pos z2, if_pos (by omega)]
      · rw [if_neg z2, if_neg (by omega)]
theorem M_tryLeans_c (hB : Bsh X.2.2.1) (hp : 0 < kNm K) {y : Int} (hy : 0 ≤ y ∧ y ≤ 2) : ∀ (t x : Nat) (p z u : Int) (m : Mm) (s : Int × Int) (Q0 : Mm → Prop), MI X m K B pf q → (x + t : Nat) = (kNm K).toNat → 0 ≤ p → p < 3 ^ x → z = rowP x p → u = mnP q x p → (∀ j : Int, 0 ≤ j → j < x → m 105 j = dgP x p j) → mS m s → sqI (rowP (kNm K).toNat) (p * 3 ^ t) s → (s.1 ≠ -1 → 0 ≤ s.2 ∧ s.2 ≤ 6) → (∀ m', SmM m m' → (∀ j : Int, 0 ≤ j → j < x → m' 105 j = m 105 j) → mS m' (sqF (rowP (kNm K).toNat) (mnP q (kNm K).toNat) (okL K B pf q y (kNm K).toNat) (3 ^ t) (p * 3 ^ t) s) → Q0 m') → M_tryLeans X (d + 10 + t) x y z u m Q0 := by
  intro t
  induction t with
  | zero =>
    intro x p z u m s Q0 hI hx hp0 hp1 hz hu h105 hs hi hs2 h
    have hn := hI.2.2.2.1
    have e28 := hI.n
    have ex : (kNm K).toNat = x := by omega
    rw [ex] at h hi
    have hrr := rowP_r (n := x) (by omega) hp0 hp1
    have hmr := mnP_r q x p
    have e1 : p * 3 ^ 0 = p := by rw [Int.pow_zero, Int.mul_one]
    rw [e1] at h hi
    refine M_tryLeansw hB ⟨by omega, by omega, fun e => by omega, fun _ => M_putAside_t hB (fun m1 t1 t2 t3 t4 t5 => ?_)⟩
    refine M_tryLeans_15_c hB hI hp (g := dgP x p) (fun k h1 h2 => h105 k h1 (by omega)) (fun k => dgP_r x p k) hy hs (by omega) (by omega) ?_ hs2 (kNm K).toNat m1 0 (by omega) (by omega) t1 (fun j => by rw [if_neg (by omega), t2, hI.2.2.1]) t4 (t5 105 (by decide)) (fun m' g1 g2 g3 => h m' g1 (fun j _ _ => by rw [g2]) ?_)
    · rcases hi with e | ⟨k', a, b, c⟩
      · exact Or.inl e
      · have r2 := rowP_r (n := x) (k := k') (by omega) a (by omega)
        have := rowP_lt (n := x) (by omega) a b hp1
        exact Or.inr ⟨by omega, by omega⟩
    · have e2 : (3 : Nat) ^ 0 = 1 := rfl
      rw [e2]
      unfold sqF sqF okL
      rw [hz, hu] at g3
      exact g3
  | succ t ih =>
    intro x p z u m s Q0 hI hx hp0 hp1 hz hu h105 hs hi hs2 h
    have hn := hI.2.2.2.1
    have e28 := hI.n
    have hrr := rowP_r (n := x) (by omega) hp0 hp1
    have hmr := mnP_r q x p
    have e3t : ((3 : Int) ^ (t + 1)) = 3 * 3 ^ t := by rw [Int.pow_succ]; omega
    have e3x : ((3 : Int) ^ (x + 1)) = 3 * 3 ^ x := by rw [Int.pow_succ]; omega
    have n3 : ((3 ^ t : Nat) : Int) = (3 : Int) ^ t := by simp
    refine M_tryLeansw hB ⟨by omega, by omega, fun _ => ?_, fun e => by omega⟩
    -- the three leans
    have loop : ∀ (f : Nat) (l5 : Int) (m1 : Mm) (s1 : Int × Int), 0 ≤ l5 → 3 - l5 = f → SmM m m1 → (∀ j : Int, 0 ≤ j → j < x → m1 105 j = m 105 j) → mS m1 s1 → sqI (rowP (kNm K).toNat) ((3 * p + l5) * 3 ^ t) s1 → (s1.1 ≠ -1 → 0 ≤ s1.2 ∧ s1.2 ≤ 6) → (∀ m', SmM m m' → (∀ j : Int, 0 ≤ j → j < x → m' 105 j = m 105 j) → mS m' (sqF (rowP (kNm K).toNat) (mnP q (kNm K).toNat) (okL K B pf q y (kNm K).toNat) (f * 3 ^ t) ((3 * p + l5) * 3 ^ t) s1) → Q0 m') → M_tryLeans_73 X (d + 10 + (t + 1)) x y z u l5 m1 Q0 := by
      intro f
      induction f with
      | zero =>
        intro l5 m1 s1 hl hf g1 g2 g3 g4 g5 g6
        refine M_tryLeans_73w hB ⟨by omega, fun _ => g6 m1 g1 g2 ?_, fun e => by omega⟩
        rw [Nat.zero_mul]
        exact g3
      | succ f ih2 =>
        intro l5 m1 s1 hl hf g1 g2 g3 g4 g5 g6
        have hI1 := hI.sm g1
        have hq3 : m1 101 x = q x := by rw [hI1.2.2.1]
        have hqx := ((hI1.2.2.2.2 hp).2.2.1 x (by omega) (by omega)).1
        have d1 : (3 * p + l5) / 3 = p := by omega
        have d2 : (3 * p + l5) % 3 = l5 := by omega
        have call : ∀ u', u' = mnP q (x + 1) (3 * p + l5) → M_tryLeans X (d + 10 + t) (((x + 1 : Nat)) : Int) y (10 * z + l5) u' (up m1 105 x l5) (fun m120 => M_tryLeans_73 X (d + 10 + (t + 1)) x y z u (l5 + 1) m120 Q0) := by
          intro u' hu'
          have sm1 : SmM m1 (up m1 105 x l5) := ⟨fun k _ => by rw [up_ne (Or.inl (by decide))], (Fr.rf _ _).up (by simp)⟩
          refine ih (x + 1) (3 * p + l5) _ _ _ s1 _ (hI1.sm sm1) (by omega) (by omega) (by rw [e3x]; omega) (by unfold rowP; rw [d1, d2, hz]) hu' (fun j j1 j2 => ?_) ?_ g4 g5 (fun m' a1 a2 a3 => ?_)
          · unfold dgP
            rw [up_at, d1, d2]
            by_cases zj : j = x
            · rw [if_pos zj, if_pos zj]
            · rw [if_neg zj, if_neg zj, g2 j j1 (by omega)]
              exact h105 j j1 (by omega)
          · unfold mS
            rw [up_ne (Or.inl (by decide)), up_ne (Or.inl (by decide))]
            exact g3
          · have smA := (g1.tr sm1).tr a1
            have hnew := sqF_inv (R := rowP (kNm K).toNat) (M := mnP q (kNm K).toNat) (O := okL K B pf q y (kNm K).toNat) (3 ^ t) ((3 * p + l5) * 3 ^ t) s1 (Int.mul_nonneg (by omega) (Int.pow_nonneg (by decide))) g4
            have ek : (3 * p + l5) * 3 ^ t + ((3 ^ t : Nat) : Int) = (3 * p + (l5 + 1)) * 3 ^ t := by
              rw [n3]
              have : (3 * p + (l5 + 1)) = (3 * p + l5) + 1 := by omega
              rw [this, Int.add_mul _ 1, Int.one_mul]
            rw [ek] at hnew
            have hb : ∀ (f : Nat) (k : Int) (s : Int × Int), (s.1 ≠ -1 → 0 ≤ s.2 ∧ s.2 ≤ 6) → ((sqF (rowP (kNm K).toNat) (mnP q (kNm K).toNat) (okL K B pf q y (kNm K).toNat) f k s).1 ≠ -1 → 0 ≤ (sqF (rowP (kNm K).toNat) (mnP q (kNm K).toNat) (okL K B pf q y (kNm K).toNat) f k s).2 ∧ (sqF (rowP (kNm K).toNat) (mnP q (kNm K).toNat) (okL K B pf q y (kNm K).toNat) f k s).2 ≤ 6) := by
              intro f
              induction f with
              | zero => intro k s hs; exact hs
              | succ f ih3 =>
                intro k s hs
                unfold sqF
                refine ih3 (k + 1) _ ?_
                split
                · intro _
                  have := mnP_r q (kNm K).toNat k
                  dsimp only
                  omega
                · exact hs
            refine ih2 (l5 + 1) m' _ (by omega) (by omega) smA (fun j j1 j2 => ?_) a3 hnew (hb _ _ _ g5) (fun m'' c1 c2 c3 => g6 m'' c1 c2 ?_)
            · rw [a2 j j1 (by omega), up_ne (Or.inr (by omega))]
              exact g2 j j1 j2
            · have em : (f + 1) * 3 ^ t = 3 ^ t + f * 3 ^ t := by rw [Nat.add_mul, Nat.one_mul, Nat.add_comm]
              rw [em, sqF_add, ek]
              exact c3
        have ec : ((x : Int) + 1) = ((x + 1 : Nat) : Int) := by omega
        refine M_tryLeans_73w hB ⟨by omega, fun e => by omega, fun _ => ⟨by omega, by omega, by omega, fun e => ?_, fun e => ?_⟩⟩
        · rw [ec]
          exact call (u + 1) (by unfold mnP; rw [d1, d2, if_neg (by omega), hu])
        · rw [ec]
          exact call u (by unfold mnP; rw [d1, d2, if_pos (by omega), hu, Int.add_zero])
    have ek0 : (3 * p + 0) * 3 ^ t = p * 3 ^ (t + 1) := by rw [Int.add_zero, e3t, ← Int.mul_assoc, Int.mul_comm p 3]
    refine loop 3 0 m s (by omega) (by omega) (SmM.rf m) (fun _ _ _ => rfl) hs (by rw [ek0]; exact hi) hs2 (fun m' c1 c2 c3 => h m' c1 c2 ?_)
    rw [ek0] at c3
    have e3n : 3 * 3 ^ t = 3 ^ (t + 1) := by rw [Nat.pow_succ]; omega
    rw [e3n] at c3
    exact c3
end Turn
