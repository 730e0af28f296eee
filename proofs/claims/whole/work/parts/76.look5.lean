/-! ===== game, rests, straw, fewest ===== -/
def bcE (x : Int) : Int := ((iA ((iA ((iA (x - (iA ((iUr x 1)) 1431655765)) 858993459) + (iA ((iUr (x - (iA ((iUr x 1)) 1431655765)) 2)) 858993459) + (iUr ((iA (x - (iA ((iUr x 1)) 1431655765)) 858993459) + (iA ((iUr (x - (iA ((iUr x 1)) 1431655765)) 2)) 858993459)) 4)) 252645135) + (iUr ((iA ((iA (x - (iA ((iUr x 1)) 1431655765)) 858993459) + (iA ((iUr (x - (iA ((iUr x 1)) 1431655765)) 2)) 858993459) + (iUr ((iA (x - (iA ((iUr x 1)) 1431655765)) 858993459) + (iA ((iUr (x - (iA ((iUr x 1)) 1431655765)) 2)) 858993459)) 4)) 252645135)) 8) + (iUr ((iA ((iA (x - (iA ((iUr x 1)) 1431655765)) 858993459) + (iA ((iUr (x - (iA ((iUr x 1)) 1431655765)) 2)) 858993459) + (iUr ((iA (x - (iA ((iUr x 1)) 1431655765)) 858993459) + (iA ((iUr (x - (iA ((iUr x 1)) 1431655765)) 2)) 858993459)) 4)) 252645135) + (iUr ((iA ((iA (x - (iA ((iUr x 1)) 1431655765)) 858993459) + (iA ((iUr (x - (iA ((iUr x 1)) 1431655765)) 2)) 858993459) + (iUr ((iA (x - (iA ((iUr x 1)) 1431655765)) 858993459) + (iA ((iUr (x - (iA ((iUr x 1)) 1431655765)) 2)) 858993459)) 4)) 252645135)) 8)) 16)) 63))
theorem bcE_e {x : Int} (h : 0 ≤ x ∧ x < 64) : bcE x = cnt x := by
  obtain ⟨a, rfl⟩ : ∃ a : Nat, x = (a : Int) := ⟨x.toNat, by omega⟩
  exact (by decide +kernel : ∀ a : Nat, a < 64 → bcE (a : Int) = cnt (a : Int)) a (by omega)
theorem cnt_r (x : Int) : 0 ≤ cnt x ∧ cnt x ≤ 6 := by
  unfold cnt
  have h0 := bit_r x 0
  have h1 := bit_r x 1
  have h2 := bit_r x 2
  have h3 := bit_r x 3
  have h4 := bit_r x 4
  have h5 := bit_r x 5
  omega
theorem or64 {a b : Int} (ha : 0 ≤ a ∧ a < 64) (hb : 0 ≤ b ∧ b < 64) : 0 ≤ iO a b ∧ iO a b < 64 := by
  obtain ⟨u, rfl⟩ : ∃ u : Nat, a = (u : Int) := ⟨a.toNat, by omega⟩
  obtain ⟨v, rfl⟩ : ∃ v : Nat, b = (v : Int) := ⟨b.toNat, by omega⟩
  exact (by decide +kernel : ∀ u : Nat, u < 64 → ∀ v : Nat, v < 64 → 0 ≤ iO (u : Int) (v : Int) ∧ iO (u : Int) (v : Int) < 64) u (by omega) v (by omega)
theorem d9 {k : Int} (h : 0 ≤ k ∧ k < 9) : iDv k 3 = k / 3 ∧ iRm k 3 = k % 3 ∧ 0 ≤ k / 3 ∧ k / 3 < 3 ∧ 0 ≤ k % 3 ∧ k % 3 < 3 ∧ 3 * (k / 3) + k % 3 = k := by
  obtain ⟨u, rfl⟩ : ∃ u : Nat, k = (u : Int) := ⟨k.toNat, by omega⟩
  exact (by decide +kernel : ∀ u : Nat, u < 9 → iDv (u : Int) 3 = (u : Int) / 3 ∧ iRm (u : Int) 3 = (u : Int) % 3 ∧ 0 ≤ (u : Int) / 3 ∧ (u : Int) / 3 < 3 ∧ 0 ≤ (u : Int) % 3 ∧ (u : Int) % 3 < 3 ∧ 3 * ((u : Int) / 3) + (u : Int) % 3 = u) u (by omega)
theorem J_bitCount_c {X : Cx} {d : Nat} {m : Mm} {Q : Int → Mm → Prop} (hB : Bsh X.2.2.1) {x : Int} (hx : 0 ≤ x ∧ x < 64) (h : Q (cnt x) m) : J_bitCount X d x m Q := by
  refine J_bitCountw hB ?_
  show Q (bcE x) m
  rw [bcE_e hx]
  exact h
/-- those of a stretch for which something holds -/
def flG (p : Int → Bool) (g : Int → Int) : Nat → Int → List Int
  | 0, _ => []
  | f + 1, s => if p s then g s :: flG p g f (s + 1) else flG p g f (s + 1)
theorem flG_len (p : Int → Bool) (g : Int → Int) : ∀ (f : Nat) (s : Int), (flG p g f s).length ≤ f := by
  intro f
  induction f with
  | zero => intro s; exact Nat.le_refl _
  | succ f ih =>
    intro s
    have := ih (s + 1)
    unfold flG
    split
    · simp only [List.length_cons]; omega
    · omega
theorem flG_congr {p p' : Int → Bool} {g : Int → Int} {n : Int} (h : ∀ s, 0 ≤ s → s < n → p s = p' s) : ∀ (f : Nat) (s : Int), 0 ≤ s → s + f ≤ n → flG p g f s = flG p' g f s := by
  intro f
  induction f with
  | zero => intro s _ _; rfl
  | succ f ih =>
    intro s h0 h1
    unfold flG
    rw [h s h0 (by omega), ih (s + 1) (by omega) (by omega)]
def gnV (s w own b : Int) : Int := (if s = w then 6 else 0) - (if own = 1 then 0 else 1) - (if b = 1 then 2 else 0)
def gnQ (q : Int → Int) (x y a b : Int) : Int → Int := lnBy (lnBy q x a) y b
def gnF (K : Kn) (B : Int → Int) (pf : Pf) (q : Int → Int) (x y a b who own : Int) : Int := gnV (sideA K (endA K (wtB B) pf (gnQ q x y a b) 22)) (q who) own (bit (endA K (wtB B) pf (gnQ q x y a b) 18) who)
theorem gnV_r (s w own b : Int) : -3 ≤ gnV s w own b ∧ gnV s w own b ≤ 6 := by
  unfold gnV
  split <;> split <;> split <;> decide
/-- the gain of the first, of the second -/
def g0F (K : Kn) (B : Int → Int) (pf : Pf) (q : Int → Int) (x y a b : Int) : Int := gnF K B pf q x y a b x a
def g1F (K : Kn) (B : Int → Int) (pf : Pf) (q : Int → Int) (x y a b : Int) : Int := gnF K B pf q x y a b y b
def rsB (g0 g1 : Int → Int → Int) (z u : Int) : Nat → Int → Bool
  | 0, _ => true
  | f + 1, l => if g0 z u < g0 l u then false else if g1 z u < g1 z l then false else rsB g0 g1 z u f (l + 1)
def FGame (K : Kn) (B : Int → Int) (pf : Pf) (q : Int → Int) (x y z u v : Int) : Int := if x < 0 ∨ kNm K ≤ x ∨ y < 0 ∨ kNm K ≤ y ∨ x = y ∨ z < 0 ∨ 2 < z ∨ u < 0 ∨ 2 < u ∨ v < 0 ∨ 1 < v then -1000000 else if v = 0 then g0F K B pf q x y z u else g1F K B pf q x y z u
def rsL (K : Kn) (B : Int → Int) (pf : Pf) (q : Int → Int) (x y : Int) : List Int := flG (fun k => rsB (g0F K B pf q x y) (g1F K B pf q x y) (k / 3) (k % 3) 3 0) (fun k => 10 * (k / 3) + k % 3) 9 0
def FRests (K : Kn) (B : Int → Int) (pf : Pf) (q : Int → Int) (x y z : Int) : Int := if x < 0 ∨ kNm K ≤ x ∨ y < 0 ∨ kNm K ≤ y ∨ x = y then -1 else pickL (rsL K B pf q x y) z
theorem gnQ_ok {K : Kn} {q : Int → Int} (hQ : Qok K q) (hn : kNm K ≤ 6) {x y a b : Int} (hx : 0 ≤ x ∧ x < kNm K) (hy : 0 ≤ y ∧ y < kNm K) (ha : 0 ≤ a ∧ a ≤ 2) (hb : 0 ≤ b ∧ b ≤ 2) : Qok K (gnQ q x y a b) := by
  refine hQ.lean hn (fun k h1 h2 => ?_) (fun j hj => ?_)
  · have h3 := (hQ.1 k h1 h2).1
    unfold gnQ lnBy
    split
    · exact hb
    · split
      · exact ha
      · exact h3
  · unfold gnQ lnBy
    rw [if_neg (by omega), if_neg (by omega)]
section Look5
variable {X : Cx} {d : Nat} {m : Mm} {Q : Int → Mm → Prop} {Q0 : Mm → Prop} {c : Nat} {K : Kn} {B q : Int → Int} {pf : Pf}
theorem M_gameOf_c (hB : Bsh X.2.2.1) (hI : MI X m K B pf q) {x y a b w : Int} (hx : 0 ≤ x ∧ x < kNm K) (hy : 0 ≤ y ∧ y < kNm K) (hne : x ≠ y) (ha : 0 ≤ a ∧ a ≤ 2) (hb : 0 ≤ b ∧ b ≤ 2) (hw : w = x ∨ w = y) (h : ∀ m', SmM m m' → Q (gnF K B pf q x y a b w (if w = x then a else b)) m') : M_gameOf X (d + 10) x y a b w m Q := by
  have hn := hI.2.2.2.1
  obtain ⟨b1, b2, b3⟩ := hI.2.2.2.2 (by omega)
  have ew := hI.w
  have e3 := hI.2.2.1
  have hwr := (b3.1 w (by omega) (by omega)).1
  refine M_gameOfw hB ⟨by omega, M_putAside_t hB (fun m1 t1 t2 t3 _ _ => ⟨by omega, by omega, ?_⟩)⟩
  have q1 : up (up m1 101 x a) 101 y b 101 = gnQ q x y a b := by
    funext j
    rw [up_at, up_at, t2, e3]
    rfl
  have hQ2 := gnQ_ok b3 hn.2 hx hy ha hb
  refine M_layEnd_c hB b1 ((t1.set (by omega)).set (by omega)) (by rw [ew]; exact b2.w) (by rw [q1]; exact hQ2) (fun m3 s1 s2 s3 s4 _ _ => ?_)
  rw [q1, ew] at s2 s3
  have k3 := (b1.sm s1).1
  have e98 : m3 98 0 = kR K 0 := by rw [← k3]; rfl
  have hwd := b1.2.2.1.2.2.1
  have hcl := (end_ok (wt := wtB B) (pf := pf) b1.2.2.1 hQ2).col b1.2.2.1
  have hF := h m3 s1
  unfold gnF at hF
  have em : m 101 w = q w := by rw [e3]
  refine M_sideOf_c hB (by omega) (by omega) ?_
  rw [k3, s2, em]
  have hsr := sideA_r K (endA K (wtB B) pf (gnQ q x y a b) 22)
  unfold gnV at hF
  refine ⟨by omega, by omega, fun z1 => ⟨by omega, by omega, fun z2 => ⟨by omega, fun z3 => M_has_c (fun z4 => q0e ?_) (fun z4 => q1e ?_), fun z3 => M_has_c (fun z4 => q0e ?_) (fun z4 => q1e ?_)⟩, fun z2 => ⟨by omega, fun z3 => M_has_c (fun z4 => q0e ?_) (fun z4 => q1e ?_), fun z3 => M_has_c (fun z4 => q0e ?_) (fun z4 => q1e ?_)⟩⟩, fun z1 => ⟨by omega, by omega, fun z2 => ⟨by omega, fun z3 => M_has_c (fun z4 => q0e ?_) (fun z4 => q1e ?_), fun z3 => M_has_c (fun z4 => q0e ?_) (fun z4 => q1e ?_)⟩, fun z2 => ⟨by omega, fun z3 => M_has_c (fun z4 => q0e ?_) (fun z4 => q1e ?_), fun z3 => M_has_c (fun z4 => q0e ?_) (fun z4 => q1e ?_)⟩⟩⟩
  · rw [s3] at z4
    rw [if_neg z1, if_neg z2, if_neg z3, if_neg (by omega)] at hF
    exact hF
  · rw [s3] at z4
    rw [if_neg z1, if_neg z2, if_neg z3, if_pos z4] at hF
    exact hF
  · rw [s3] at z4
    rw [if_neg z1, if_neg z2, if_pos z3, if_neg (by omega)] at hF
    exact hF
  · rw [s3] at z4
    rw [if_neg z1, if_neg z2, if_pos z3, if_pos z4] at hF
    exact hF
  · rw [s3] at z4
    rw [if_neg z1, if_pos z2, if_neg z3, if_neg (by omega)] at hF
    exact hF
  · rw [s3] at z4
    rw [if_neg z1, if_pos z2, if_neg z3, if_pos z4] at hF
    exact hF
  · rw [s3] at z4
    rw [if_neg z1, if_pos z2, if_pos z3, if_neg (by omega)] at hF
    exact hF
  · rw [s3] at z4
    rw [if_neg z1, if_pos z2, if_pos z3, if_pos z4] at hF
    exact hF
  · rw [s3] at z4
    rw [if_pos z1, if_neg z2, if_neg z3, if_neg (by omega)] at hF
    exact hF
  · rw [s3] at z4
    rw [if_pos z1, if_neg z2, if_neg z3, if_pos z4] at hF
    exact hF
  · rw [s3] at z4
    rw [if_pos z1, if_neg z2, if_pos z3, if_neg (by omega)] at hF
    exact hF
  · rw [s3] at z4
    rw [if_pos z1, if_neg z2, if_pos z3, if_pos z4] at hF
    exact hF
  · rw [s3] at z4
    rw [if_pos z1, if_pos z2, if_neg z3, if_neg (by omega)] at hF
    exact hF
  · rw [s3] at z4
    rw [if_pos z1, if_pos z2, if_neg z3, if_pos z4] at hF
    exact hF
  · rw [s3] at z4
    rw [if_pos z1, if_pos z2, if_pos z3, if_neg (by omega)] at hF
    exact hF
  · rw [s3] at z4
    rw [if_pos z1, if_pos z2, if_pos z3, if_pos z4] at hF
    exact hF
theorem M_areTwo_c (hB : Bsh X.2.2.1) (hI : MI X m K B pf q) {x y : Int} (hx : R3 x) (hy : R3 y) (h1 : 0 ≤ x → x < kNm K → 0 ≤ y → y < kNm K → x ≠ y → Q 1 m) (h0 : (x < 0 ∨ kNm K ≤ x ∨ y < 0 ∨ kNm K ≤ y ∨ x = y) → Q 0 m) : M_areTwo X (d + 2) x y m Q := by
  have hn := hI.2.2.2.1
  have e28 := hI.n
  refine M_areTwow hB (M_isMember_c hB (by omega) hx (fun z1 z2 => q1e (M_isMember_c hB (by omega) hy (fun z3 z4 => q1e ⟨hx, hy, fun z5 => h0 (by omega), fun z5 => h1 z1 (by omega) z3 (by omega) z5⟩) (fun z => q0e (h0 (by omega))))) (fun z => q0e (h0 (by omega))))
theorem M_game_c (hB : Bsh X.2.2.1) (hI : MI X m K B pf q) {x y z u v : Int} (hx : R3 x) (hy : R3 y) (hz : R3 z) (hu : R3 u) (hv : R3 v) (h : ∀ m', SmM m m' → Q (FGame K B pf q x y z u v) m') : M_game X (d + 12) x y z u v m Q := by
  have no : (x < 0 ∨ kNm K ≤ x ∨ y < 0 ∨ kNm K ≤ y ∨ x = y ∨ z < 0 ∨ 2 < z ∨ u < 0 ∨ 2 < u ∨ v < 0 ∨ 1 < v) → Q (-1000000) m := fun e => by
    have := h m (SmM.rf m)
    unfold FGame at this
    rw [if_pos e] at this
    exact this
  refine M_gamew hB (M_areTwo_c hB hI hx hy (fun z1 z2 z3 z4 z5 => q1e (M_in_c hz (by decide) (by decide) (fun z6 z7 => q1e (M_in_c hu (by decide) (by decide) (fun z8 z9 => q1e (M_in_c hv (by decide) (by decide) (fun y1 y2 => q1n ⟨hv, fun y3 => ?_, fun y3 => ?_⟩) (fun e => q0n (no (by omega))))) (fun e => q0e (no (by omega))))) (fun e => q0e (no (by omega))))) (fun e => q0e (no (by omega))))
  · refine M_gameOf_c hB hI (by omega) (by omega) z5 (by omega) (by omega) (Or.inr rfl) (fun m' hs => ?_)
    have := h m' hs
    unfold FGame g1F at this
    rw [if_neg (by omega), if_neg y3] at this
    rw [if_neg (Ne.symm z5)]
    exact this
  · refine M_gameOf_c hB hI (by omega) (by omega) z5 (by omega) (by omega) (Or.inl rfl) (fun m' hs => ?_)
    have := h m' hs
    unfold FGame g0F at this
    rw [if_neg (by omega), if_pos y3] at this
    rw [if_pos rfl]
    exact this
theorem M_isRest_3_c (hB : Bsh X.2.2.1) {x y z u : Int} (hx : 0 ≤ x ∧ x < kNm K) (hy : 0 ≤ y ∧ y < kNm K) (hne : x ≠ y) (hz : 0 ≤ z ∧ z ≤ 2) (hu : 0 ≤ u ∧ u ≤ 2) : ∀ (f : Nat) (m : Mm) (l5 : Int), MI X m K B pf q → 0 ≤ l5 → 3 - l5 = f → (∀ m', SmM m m' → Q (if rsB (g0F K B pf q x y) (g1F K B pf q x y) z u f l5 then 1 else 0) m') → M_isRest_3 X (d + 11) x y z u l5 m Q := by
  intro f
  induction f with
  | zero =>
    intro m l5 hI hl hf h
    exact M_isRest_3w hB ⟨by omega, fun _ => h m (SmM.rf m), fun e => by omega⟩
  | succ f ih =>
    intro m l5 hI hl hf h
    refine M_isRest_3w hB ⟨by omega, fun e => by omega, fun _ => M_gameOf_c hB hI hx hy hne (by omega) hu (Or.inl rfl) (fun m1 s1 => M_gameOf_c hB (hI.sm s1) hx hy hne hz hu (Or.inl rfl) (fun m2 s2 => ?_))⟩
    have hI2 := (hI.sm s1).sm s2
    have s12 := s1.tr s2
    rw [if_pos rfl, if_pos rfl]
    have r1 := gnV_r (sideA K (endA K (wtB B) pf (gnQ q x y l5 u) 22)) (q x) l5 (bit (endA K (wtB B) pf (gnQ q x y l5 u) 18) x)
    have r2 := gnV_r (sideA K (endA K (wtB B) pf (gnQ q x y z u) 22)) (q x) z (bit (endA K (wtB B) pf (gnQ q x y z u) 18) x)
    refine ⟨by unfold gnF; omega, by unfold gnF; omega, fun e => ?_, fun e => M_gameOf_c hB hI2 hx hy hne hz (by omega) (Or.inr rfl) (fun m3 s3 => M_gameOf_c hB (hI2.sm s3) hx hy hne hz hu (Or.inr rfl) (fun m4 s4 => ?_))⟩
    · have := h m2 s12
      unfold rsB at this
      have e' : g0F K B pf q x y z u < g0F K B pf q x y l5 u := e
      rw [if_pos e'] at this
      exact this
    · rw [if_neg (Ne.symm hne), if_neg (Ne.symm hne)]
      have r3 := gnV_r (sideA K (endA K (wtB B) pf (gnQ q x y z l5) 22)) (q y) l5 (bit (endA K (wtB B) pf (gnQ q x y z l5) 18) y)
      have r4 := gnV_r (sideA K (endA K (wtB B) pf (gnQ q x y z u) 22)) (q y) u (bit (endA K (wtB B) pf (gnQ q x y z u) 18) y)
      have e1 : ¬ g0F K B pf q x y z u < g0F K B pf q x y l5 u := Int.not_lt.mpr e
      have s34 := s12.tr (s3.tr s4)
      refine ⟨by unfold gnF; omega, by unfold gnF; omega, fun e2 => ih m4 (l5 + 1) ((hI2.sm s3).sm s4) (by omega) (by omega) (fun m' hs => ?_), fun e2 => ?_⟩
      · have := h m' (s34.tr hs)
        unfold rsB at this
        have e' : ¬ g1F K B pf q x y z u < g1F K B pf q x y z l5 := Int.not_lt.mpr e2
        rw [if_neg e1, if_neg e'] at this
        exact this
      · have := h m4 s34
        unfold rsB at this
        have e' : g1F K B pf q x y z u < g1F K B pf q x y z l5 := e2
        rw [if_neg e1, if_pos e'] at this
        exact this
theorem M_rests_22_c (hB : Bsh X.2.2.1) {x y z : Int} (hx : 0 ≤ x ∧ x < kNm K) (hy : 0 ≤ y ∧ y < kNm K) (hne : x ≠ y) (hz : R3 z) : ∀ (f : Nat) (m : Mm) (l4 l5 : Int), MI X m K B pf q → 0 ≤ l5 → 9 - l5 = f → (0 ≤ l4 ∧ l4 ≤ l5) → (∀ m', SmM m m' → Q (pkF (flG (fun k => rsB (g0F K B pf q x y) (g1F K B pf q x y) (k / 3) (k % 3) 3 0) (fun k => 10 * (k / 3) + k % 3) f l5) l4 z) m') → M_rests_22 X (d + 12) x y z l4 l5 m Q := by
  intro f
  induction f with
  | zero =>
    intro m l4 l5 hI hl hf h4 h
    have h' := h m (SmM.rf m)
    unfold flG pkF at h'
    refine M_rests_22w hB ⟨by omega, fun _ => ⟨hz, fun e => ?_, fun e => ?_⟩, fun e => by omega⟩
    · rw [if_neg e] at h'
      exact h'
    · rw [if_pos e] at h'
      exact h'
  | succ f ih =>
    intro m l4 l5 hI hl hf h4 h
    have hd := d9 (k := l5) (by omega)
    unfold flG at h
    refine M_rests_22w hB ⟨by omega, fun e => by omega, fun _ => ?_⟩
    rw [hd.1, hd.2.1]
    refine M_isRestw hB (M_isRest_3_c hB hx hy hne (by omega) (by omega) 3 m 0 hI (by omega) (by omega) (fun m1 s1 => ?_))
    cases hb : rsB (g0F K B pf q x y) (g1F K B pf q x y) (l5 / 3) (l5 % 3) 3 0 with
    | false =>
      simp only [hb] at h
      exact q0e (ih m1 l4 (l5 + 1) (hI.sm s1) (by omega) (by omega) (by omega) (fun m' hs => h m' (s1.tr hs)))
    | true =>
      simp only [hb, if_true] at h
      refine q1e ⟨by omega, hz, fun e => ih m1 (l4 + 1) (l5 + 1) (hI.sm s1) (by omega) (by omega) (by omega) (fun m' hs => ?_), fun e => ?_⟩
      · have := h m' (s1.tr hs)
        unfold pkF at this
        rw [if_neg e] at this
        exact this
      · have := h m1 s1
        unfold pkF at this
        rw [if_pos e] at this
        exact this
theorem M_rests_c (hB : Bsh X.2.2.1) (hI : MI X m K B pf q) {x y z : Int} (hx : R3 x) (hy : R3 y) (hz : R3 z) (h : ∀ m', SmM m m' → Q (FRests K B pf q x y z) m') : M_rests X (d + 13) x y z m Q := by
  unfold FRests at h
  refine M_restsw hB (M_areTwo_c hB hI hx hy (fun z1 z2 z3 z4 z5 => q1e ⟨hz, fun e => ?_, fun e => ?_⟩) (fun e => q0e ?_))
  · rw [if_neg (by omega)] at h
    refine M_rests_22_c hB ⟨z1, z2⟩ ⟨z3, z4⟩ z5 hz 9 m 0 0 hI (by omega) (by omega) (by omega) (fun m' hs => ?_)
    rw [pkF_0 e]
    exact h m' hs
  · rw [if_neg (by omega), pickL_low e] at h
    exact h m (SmM.rf m)
  · rw [if_pos e] at h
    exact h m (SmM.rf m)
end Look5
