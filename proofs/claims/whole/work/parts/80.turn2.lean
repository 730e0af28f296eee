/-! ===== turn: the class ===== -/
def rowF (g : Int → Int) : Nat → Int → Int → Int
  | 0, _, a => a
  | f + 1, l, a => rowF g f (l + 1) (10 * a + g l)
def unF (g q : Int → Int) : Nat → Int → Int → Int
  | 0, _, a => a
  | f + 1, l, a => unF g q f (l + 1) (if g l = q l then a else a + 1)
theorem rowF_snoc (g : Int → Int) : ∀ (f : Nat) (l a : Int), rowF g (f + 1) l a = 10 * rowF g f l a + g (l + f) := by
  intro f
  induction f with
  | zero => intro l a; show 10 * a + g l = 10 * a + g (l + 0); rw [Int.add_zero]
  | succ f ih =>
    intro l a
    have e : l + 1 + (f : Int) = l + ((f + 1 : Nat) : Int) := by omega
    show rowF g (f + 1) (l + 1) _ = 10 * rowF g f (l + 1) _ + _
    rw [ih (l + 1), e]
theorem unF_snoc (g q : Int → Int) : ∀ (f : Nat) (l a : Int), unF g q (f + 1) l a = unF g q f l a + (if g (l + f) = q (l + f) then 0 else 1) := by
  intro f
  induction f with
  | zero =>
    intro l a
    show (if g l = q l then a else a + 1) = a + (if g (l + 0) = q (l + 0) then 0 else 1)
    rw [Int.add_zero]
    split <;> omega
  | succ f ih =>
    intro l a
    have e : l + 1 + (f : Int) = l + ((f + 1 : Nat) : Int) := by omega
    show unF g q (f + 1) (l + 1) _ = unF g q f (l + 1) _ + _
    rw [ih (l + 1), e]
theorem rowF_cg {g g' : Int → Int} : ∀ (f : Nat) (l a : Int), (∀ j, l ≤ j → j < l + f → g j = g' j) → rowF g f l a = rowF g' f l a := by
  intro f
  induction f with
  | zero => intro l a _; rfl
  | succ f ih =>
    intro l a h
    unfold rowF
    rw [h l (by omega) (by omega)]
    exact ih (l + 1) _ (fun j h1 h2 => h j (by omega) (by omega))
theorem unF_cg {g g' q : Int → Int} : ∀ (f : Nat) (l a : Int), (∀ j, l ≤ j → j < l + f → g j = g' j) → unF g q f l a = unF g' q f l a := by
  intro f
  induction f with
  | zero => intro l a _; rfl
  | succ f ih =>
    intro l a h
    unfold unF
    rw [h l (by omega) (by omega)]
    exact ih (l + 1) _ (fun j h1 h2 => h j (by omega) (by omega))
theorem dgP_ne {n : Nat} {k j : Int} (h : j ≠ (n : Int)) : dgP (n + 1) k j = dgP n (k / 3) j := if_neg h
theorem dgP_at {n : Nat} {k j : Int} (h : j = (n : Int)) : dgP (n + 1) k j = k % 3 := if_pos h
theorem rowF_dg : ∀ (n : Nat) (k : Int), rowF (dgP n k) n 0 0 = rowP n k := by
  intro n
  induction n with
  | zero => intro k; rfl
  | succ n ih =>
    intro k
    rw [rowF_snoc, rowF_cg (g' := dgP n (k / 3)) n 0 0 (fun j h1 h2 => dgP_ne (by omega)), ih (k / 3), dgP_at (by omega)]
    rfl
theorem unF_dg (q : Int → Int) : ∀ (n : Nat) (k : Int), unF (dgP n k) q n 0 0 = mnP q n k := by
  intro n
  induction n with
  | zero => intro k; rfl
  | succ n ih =>
    intro k
    rw [unF_snoc, unF_cg (g' := dgP n (k / 3)) n 0 0 (fun j h1 h2 => dgP_ne (by omega)), ih (k / 3), dgP_at (by omega), Int.zero_add]
    rfl
theorem d729 {k : Int} (h : 0 ≤ k ∧ k < 729) : iDv k 3 = k / 3 ∧ iRm k 3 = k % 3 := by
  obtain ⟨u, rfl⟩ : ∃ u : Nat, k = (u : Int) := ⟨k.toNat, by omega⟩
  exact (by decide +kernel : ∀ u : Nat, u < 729 → iDv (u : Int) 3 = (u : Int) / 3 ∧ iRm (u : Int) 3 = (u : Int) % 3) u (by omega)
/-- what the class has found so far -/
def cS (m : Mm) (s : Int × Int) : Prop := m 66 2 = s.1 ∧ m 66 1 = s.2 ∧ ((s.1 = -1 ∧ s.2 = -1) ∨ (s.1 ≠ -1 ∧ 0 ≤ s.2 ∧ s.2 ≤ 6))
section Turn2
variable {X : Cx} {d : Nat} {m : Mm} {Q : Int → Mm → Prop} {Q0 : Mm → Prop} {c : Nat} {K : Kn} {B q : Int → Int} {pf : Pf}
theorem O_leansOf_9_c (hB : Bsh X.2.2.1) {x y : Int} : ∀ (n : Nat) (l2 l3 l4 : Int), n ≤ 6 → (0 ≤ l3 ∧ l3 < 729) → l4 = (n : Int) - 1 → (∀ v, (∀ j, 0 ≤ j → j < (n : Int) → nib v j = dgP n l3 j) → (∀ j, (n : Int) ≤ j → j < 6 → nib v j = nib l2 j) → Q v m) → O_leansOf_9 X (d + 1) x y l2 l3 l4 m Q := by
  intro n
  induction n with
  | zero =>
    intro l2 l3 l4 hn h3 h4 h
    exact O_leansOf_9w hB ⟨by omega, fun _ => h l2 (fun j h1 h2 => by omega) (fun j _ _ => rfl), fun z => by omega⟩
  | succ n ih =>
    intro l2 l3 l4 hn h3 h4 h
    have hd := d729 h3
    have e4 : l4 = (n : Int) := by omega
    refine O_leansOf_9w hB ⟨by omega, fun z => by omega, fun _ => T_with_c ?_⟩
    rw [hd.1, hd.2]
    refine ih _ (l3 / 3) (l4 - 1) (by omega) (by omega) (by omega) (fun v g1 g2 => h v (fun j h1 h2 => ?_) (fun j h1 h2 => ?_))
    · unfold dgP
      by_cases z : j = n
      · rw [if_pos z, g2 j (by omega) (by omega), nibI (by omega) (by omega) (by omega), if_pos (by omega)]
      · rw [if_neg z]
        exact g1 j h1 (by omega)
    · rw [g2 j (by omega) h2, nibI (by omega) (by omega) (by omega), if_neg (by omega)]
theorem O_countUnlike_5_c (hB : Bsh X.2.2.1) {x y z : Int} {g p : Int → Int} (hg : ∀ j, 0 ≤ j → j < z → nib x j = g j) (hp : ∀ j, 0 ≤ j → j < z → nib y j = p j) (hz : 0 ≤ z ∧ z ≤ 6) : ∀ (f : Nat) (l3 l4 : Int), 0 ≤ l4 → z - l4 = f → Q (unF g p f l4 l3) m → O_countUnlike_5 X (d + 1) x y z l3 l4 m Q := by
  intro f
  induction f with
  | zero => intro l3 l4 hl hf h; exact O_countUnlike_5w hB ⟨by omega, by omega, fun _ => h, fun e => by omega⟩
  | succ f ih =>
    intro l3 l4 hl hf h
    have r1 := nib_r x l4
    have r2 := nib_r y l4
    have e1 := hg l4 hl (by omega)
    have e2 := hp l4 hl (by omega)
    unfold unF at h
    refine O_countUnlike_5w hB ⟨by omega, by omega, fun e => by omega, fun _ => T_of_c (T_of_c ⟨by omega, by omega, fun e => ?_, fun e => ?_⟩)⟩
    · rw [if_pos (by omega)] at h
      exact ih l3 (l4 + 1) (by omega) (by omega) h
    · rw [if_neg (by omega)] at h
      exact ih (l3 + 1) (l4 + 1) (by omega) (by omega) h
theorem O_rowOf_4_c (hB : Bsh X.2.2.1) {x y : Int} {g : Int → Int} (hg : ∀ j, 0 ≤ j → j < y → nib x j = g j) (hy : 0 ≤ y ∧ y ≤ 6) : ∀ (f : Nat) (l2 l3 : Int), 0 ≤ l3 → y - l3 = f → Q (rowF g f l3 l2) m → O_rowOf_4 X (d + 1) x y l2 l3 m Q := by
  intro f
  induction f with
  | zero => intro l2 l3 hl hf h; exact O_rowOf_4w hB ⟨by omega, by omega, fun _ => h, fun e => by omega⟩
  | succ f ih =>
    intro l2 l3 hl hf h
    refine O_rowOf_4w hB ⟨by omega, by omega, fun e => by omega, fun _ => T_of_c ?_⟩
    rw [hg l3 hl (by omega)]
    exact ih _ (l3 + 1) (by omega) (by omega) h
/-- leans packed into the trial -/
theorem O_searchLeans_48_c (hB : Bsh X.2.2.1) {m0 : Mm} {x : Int} (hx : 0 ≤ x ∧ x ≤ 2) (hp : 0 < kNm K) : ∀ (f : Nat) (m : Mm) (l5 : Int) (o6 o7 : Option Int) (s : Int × Int), CI X m c K B pf q → 0 ≤ l5 → 3 ^ (kNm K).toNat - l5 = f → SmC m0 m → cS m s → (∀ m', SmC m0 m' → cS m' (sqF (rowP (kNm K).toNat) (mnP q (kNm K).toNat) (okL K B pf q x (kNm K).toNat) f l5 s) → Q0 m') → O_searchLeans_48 X (d + 9) x (kNm K) (3 ^ (kNm K).toNat) l5 o6 o7 m Q0 := by
  intro f
  induction f with
  | zero =>
    intro m l5 o6 o7 s hI hl hf hs hc h
    have hn := hI.2.2.2.2.1
    have h7 := p3 (kNm K).toNat (by omega)
    have n3 : ((3 : Int) ^ (kNm K).toNat) = ((3 ^ (kNm K).toNat : Nat) : Int) := by simp
    exact O_searchLeans_48w hB ⟨by omega, by omega, fun _ => h m hs hc, fun e => by omega⟩
  | succ f ih =>
    intro m l5 o6 o7 s hI hl hf hs hc h
    obtain ⟨b1, b2, b3, b4, b5⟩ := hI.2.2.2.2.2 hp
    have hn := hI.2.2.2.2.1
    have h7 := p3 (kNm K).toNat (by omega)
    have n3 : ((3 : Int) ^ (kNm K).toNat) = ((3 ^ (kNm K).toNat : Nat) : Int) := by simp
    have hrr := rowP_r (n := (kNm K).toNat) (k := l5) (by omega) hl (by omega)
    have hmr := mnP_r q (kNm K).toNat l5
    have e17 : ∀ j, 0 ≤ j → j < kNm K → nib (m 17 1) j = q j := fun j h1 h2 => (hI.rd h1 h2).2.1
    refine O_searchLeans_48w hB ⟨by omega, by omega, fun e => by omega, fun _ => O_leansOfw hB ?_⟩
    have hlo : ∀ v, (∀ j, 0 ≤ j → j < ((kNm K).toNat : Int) → nib v j = dgP (kNm K).toNat l5 j) → O_countUnlike X (d + 8) v (m 17 1) (kNm K) m (fun v70 m70 => (-2147483648 ≤ (m70 66 1) ∧ (m70 66 1) < 2147483648) ∧ (m70 66 1 = -1 → O_searchLeans_92 X (d + 9) x (kNm K) (3 ^ (kNm K).toNat) l5 v v70 m70 Q0) ∧ (m70 66 1 ≠ -1 → (-2147483648 ≤ v70 ∧ v70 < 2147483648) ∧ (m70 66 1 ≤ v70 → O_searchLeans_48 X (d + 9) x (kNm K) (3 ^ (kNm K).toNat) (l5 + 1) (some v) (some v70) m70 Q0) ∧ (v70 < m70 66 1 → O_searchLeans_92 X (d + 9) x (kNm K) (3 ^ (kNm K).toNat) l5 v v70 m70 Q0))) := by
      intro v hv
      have hv' : ∀ j, 0 ≤ j → j < kNm K → nib v j = dgP (kNm K).toNat l5 j := fun j h1 h2 => hv j h1 (by omega)
      refine O_countUnlikew hB (O_countUnlike_5_c hB (g := dgP (kNm K).toNat l5) (p := q) hv' e17 (by omega) (kNm K).toNat 0 0 (by omega) (by omega) ?_)
      rw [unF_dg]
      have go : (s.1 = -1 ∨ mnP q (kNm K).toNat l5 < s.2) → O_searchLeans_92 X (d + 9) x (kNm K) (3 ^ (kNm K).toNat) l5 v (mnP q (kNm K).toNat l5) m Q0 := by
        intro hcond
        have hcb : (decide (s.1 = -1) || decide (mnP q (kNm K).toNat l5 < s.2)) = true := by
          rcases hcond with e | e
          · rw [decide_eq_true e]; rfl
          · rw [decide_eq_true e, Bool.or_true]
        refine O_searchLeans_92w hB (T_copy_c hB (by decide) (by decide) (by decide) ?_)
        obtain ⟨m1, hm1⟩ : ∃ m1, m1 = up (cpS m 69 17) 69 1 v := ⟨_, rfl⟩
        rw [← hm1]
        have hc1 : Sc 69 m m1 := by
          rw [hm1]
          exact (cp_sc (o := 17) (Or.inl rfl)).tr ⟨by rw [up_ne (Or.inl (by decide))], by rw [up_ne (Or.inl (by decide))], (Fr.rf _ _).up (by simp)⟩
        have hS : Sr K (wtB B) (m1 69) (leanS q (kNm K) (dgP (kNm K).toNat l5)) := by
          refine b4.lean hn.2 (fun k h1 h2 => ?_) (fun j h1 h2 h3 => ?_) (fun j hj => ?_)
          · rw [hm1, up_same]
            unfold leanS
            rw [if_pos ⟨h1, h2⟩]
            exact hv' k h1 h2
          · rw [hm1, up_ne (Or.inr h1)]
            unfold cpS
            rw [if_pos ⟨rfl, h2, by omega⟩]
          · unfold leanS
            rw [if_neg (by omega)]
        have hQ := leanS_ok b3 hn.2 (g := dgP (kNm K).toNat l5) (fun k _ _ => dgP_r _ _ _)
        refine S_sideAtEnd_c hB (b1.of (Or.inr (Or.inl rfl)) hc1) (Or.inr (Or.inl rfl)) b2.w hS hQ (fun m2 g1 g2 g3 => ?_)
        have hc2 := hc1.tr g3
        have hs2 := hc2.sm (Or.inl rfl)
        have e66 : m2 66 = m 66 := hc2.2.2 66 (by decide)
        have hsr := sideA_r K (endA K (wtB B) pf (leanS q (kNm K) (dgP (kNm K).toNat l5)) 22)
        have step : ∀ m', SmC m0 m' → cS m' (sqF (rowP (kNm K).toNat) (mnP q (kNm K).toNat) (okL K B pf q x (kNm K).toNat) f (l5 + 1) (if okL K B pf q x (kNm K).toNat l5 && (decide (s.1 = -1) || decide (mnP q (kNm K).toNat l5 < s.2)) then (rowP (kNm K).toNat l5, mnP q (kNm K).toNat l5) else s)) → Q0 m' := h
        rw [hcb, Bool.and_true] at step
        refine ⟨by omega, by omega, fun e => ?_, fun e => ?_⟩
        · have e' : okL K B pf q x (kNm K).toNat l5 = false := decide_eq_false e
          rw [e'] at step
          refine ih m2 (l5 + 1) _ _ s (hI.sm hs2) (by omega) (by omega) (hs.tr hs2) ?_ step
          unfold cS
          rw [e66]
          exact hc
        · have e' : okL K B pf q x (kNm K).toNat l5 = true := decide_eq_true e
          rw [e'] at step
          refine O_rowOfw hB (O_rowOf_4_c hB (g := dgP (kNm K).toNat l5) hv' (by omega) (kNm K).toNat 0 0 (by omega) (by omega) ?_)
          rw [rowF_dg]
          have s3 : SmC m2 (up (up m2 66 1 (mnP q (kNm K).toNat l5)) 66 2 (rowP (kNm K).toNat l5)) := SmC.fr (((Fr.rf [66] _).up (by simp)).up (by simp)) (by decide)
          refine ih _ (l5 + 1) _ _ _ ((hI.sm hs2).sm s3) (by omega) (by omega) ((hs.tr hs2).tr s3) ?_ step
          unfold cS
          rw [up_same, up_ne (Or.inr (by decide)), up_same]
          exact ⟨rfl, rfl, Or.inr ⟨by show ¬ rowP _ _ = -1; omega, by show 0 ≤ mnP _ _ _; omega, by show mnP _ _ _ ≤ 6; omega⟩⟩
      obtain ⟨c1, c2, c3⟩ := hc
      refine ⟨by omega, fun e => go (Or.inl (by omega)), fun e => ⟨by omega, fun e2 => ?_, fun e2 => go (Or.inr (by omega))⟩⟩
      have hcb : (decide (s.1 = -1) || decide (mnP q (kNm K).toNat l5 < s.2)) = false := by
        rw [decide_eq_false (p := s.1 = -1) (by omega), decide_eq_false (p := mnP q (kNm K).toNat l5 < s.2) (by omega)]
        rfl
      have step : ∀ m', SmC m0 m' → cS m' (sqF (rowP (kNm K).toNat) (mnP q (kNm K).toNat) (okL K B pf q x (kNm K).toNat) f (l5 + 1) (if okL K B pf q x (kNm K).toNat l5 && (decide (s.1 = -1) || decide (mnP q (kNm K).toNat l5 < s.2)) then (rowP (kNm K).toNat l5, mnP q (kNm K).toNat l5) else s)) → Q0 m' := h
      rw [hcb, Bool.and_false] at step
      exact ih m (l5 + 1) _ _ s hI (by omega) (by omega) hs ⟨c1, c2, c3⟩ step
    exact O_leansOf_9_c hB (kNm K).toNat 0 l5 (kNm K - 1) (by omega) (by omega) (by omega) (fun v g1 _ => hlo v g1)
theorem O_searchLeans_17_c (hB : Bsh X.2.2.1) {x : Int} (hp : 0 < kNm K ∧ kNm K ≤ 6) (h : O_searchLeans_48 X (d + 1) x (kNm K) (3 ^ (kNm K).toNat) 0 none none (up (up m 66 1 (-1)) 66 2 (-1)) Q0) : ∀ (f : Nat) (t : Nat), kNm K - t = f → O_searchLeans_17 X (d + 1) x (kNm K) (3 ^ t) t m Q0 := by
  intro f
  induction f with
  | zero =>
    intro t ht
    have e : t = (kNm K).toNat := by omega
    rw [← e] at h
    exact O_searchLeans_17w hB ⟨by omega, by omega, fun _ => h, fun e => by omega⟩
  | succ f ih =>
    intro t ht
    refine O_searchLeans_17w hB ⟨by omega, by omega, fun e => by omega, fun _ => ?_⟩
    have e : (3 : Int) * 3 ^ t = 3 ^ (t + 1) := by rw [Int.pow_succ]; omega
    have e2 : ((t : Int) + 1) = ((t + 1 : Nat) : Int) := by omega
    rw [e, e2]
    exact ih (t + 1) (by omega)
theorem V_turn_c (hB : Bsh X.2.2.1) (hI : CI X m c K B pf q) {x y : Int} (hx : R3 x) (hy : R3 y) (h : ∀ m', SmC m m' → Q (FTurn K B pf q x y) m') : V_turn X (d + 12) x y m Q := by
  have hn := hI.mem
  have h4 := hI.2.2.2.1
  have no : (kNm K = 0 ∨ x < 0 ∨ 2 < x ∨ y < 0 ∨ 1 < y) → Q (-1) m := fun e => by
    have := h m (SmC.rf m)
    unfold FTurn at this
    rw [if_pos e] at this
    exact this
  refine V_turnw hB (V_hasCanton_c hB hI.1 hI.2.1 hn (fun hp => q1e (V_isSide_c hB hx (fun z1 z2 => q1e ⟨hy, fun e => no (by omega), fun z3 => ⟨fun z4 => ?_, fun e => no (by omega)⟩⟩) (fun e => q0e (no (by omega))))) (fun e => q0e (no (by omega))))
  refine O_searchLeansw hB ⟨c, hI.1, hI.2.2.1, ?_⟩
  rw [h4]
  have e0 : (1 : Int) = 3 ^ 0 := rfl
  have e1 : (0 : Int) = ((0 : Nat) : Int) := rfl
  rw [e0, e1]
  have s1 : SmC m (up (up m 66 1 (-1)) 66 2 (-1)) := SmC.fr (((Fr.rf [66] _).up (by simp)).up (by simp)) (by decide)
  have n3 : ((3 : Int) ^ (kNm K).toNat) = ((3 ^ (kNm K).toNat : Nat) : Int) := by simp
  refine O_searchLeans_17_c hB (by omega) (O_searchLeans_48_c hB ⟨z1, z2⟩ (by omega) (3 ^ (kNm K).toNat) _ 0 none none (-1, -1) (hI.sm s1) (by omega) (by rw [n3]; omega) s1 ⟨up_same _ _ _ _, by rw [up_ne (Or.inr (by decide))]; exact up_same _ _ _ _, Or.inl ⟨rfl, rfl⟩⟩ (fun m' g1 g2 => ?_)) (kNm K).toNat 0 (by omega)
  have := h m' g1
  unfold FTurn at this
  rw [if_neg (by omega)] at this
  refine ⟨fun e => ?_, fun e => ?_⟩
  · rw [if_neg (by omega)] at this
    rw [g2.1]
    exact this
  · rw [if_pos (by omega)] at this
    show Q (m' 66 1) m'
    rw [g2.2.1]
    exact this
/-- when nothing is found the answer is none, both ways -/
theorem M_isSide_c (hB : Bsh X.2.2.1) (hI : MI X m K B pf q) {x y : Int} (hx : R3 x) (hy : R3 y) (h1 : 0 < kNm K → 0 ≤ x → x ≤ 2 → 0 ≤ y → y ≤ 1 → Q 1 m) (h0 : (kNm K = 0 ∨ x < 0 ∨ 2 < x ∨ y < 0 ∨ 1 < y) → Q 0 m) : M_isSide X (d + 1) x y m Q := by
  have hn := hI.2.2.2.1
  have e28 := hI.n
  exact M_isSidew hB ⟨by omega, fun e => h0 (by omega), fun e => M_in_c hx (by decide) (by decide) (fun z1 z2 => q1e (M_in_c hy (by decide) (by decide) (fun z3 z4 => q1e (h1 (by omega) z1 z2 z3 z4)) (fun e => q0e (h0 (by omega))))) (fun e => q0e (h0 (by omega)))⟩
theorem sqF_none {R M : Int → Int} {O : Int → Bool} (hR : ∀ k, 0 ≤ k → R k ≠ -1) : ∀ (f : Nat) (k : Int) (s : Int × Int), 0 ≤ k → (s.1 = -1 → s.2 = -1) → ((sqF R M O f k s).1 = -1 → (sqF R M O f k s).2 = -1) := by
  intro f
  induction f with
  | zero => intro k s _ h; exact h
  | succ f ih =>
    intro k s hk h
    unfold sqF
    refine ih (k + 1) _ (by omega) ?_
    split
    · intro e; exact absurd e (hR k hk)
    · exact h
theorem rowP_nn : ∀ (n : Nat) (k : Int), 0 ≤ rowP n k := by
  intro n
  induction n with
  | zero => intro k; exact Int.le_refl _
  | succ n ih => intro k; have := ih (k / 3); unfold rowP; omega
theorem M_turn_c (hB : Bsh X.2.2.1) (hI : MI X m K B pf q) {x y : Int} (hx : R3 x) (hy : R3 y) (h : ∀ m', SmM m m' → Q (FTurn K B pf q x y) m') : M_turn X (d + 18) x y m Q := by
  have hn := hI.2.2.2.1
  have no : (kNm K = 0 ∨ x < 0 ∨ 2 < x ∨ y < 0 ∨ 1 < y) → Q (-1) m := fun e => by
    have := h m (SmM.rf m)
    unfold FTurn at this
    rw [if_pos e] at this
    exact this
  refine M_turnw hB (M_isSide_c hB hI hx hy (fun hp z1 z2 z3 z4 => q1n ?_) (fun e => q0n (no e)))
  have s1 : SmM m (up m 83 41 (-1)) := ⟨fun k hk => up_ne (Or.inr (fun e => hk (by unfold scF; omega))), (Fr.rf _ _).up (by simp)⟩
  have hF : ∀ m', SmM m m' → mS m' (trS K B pf q x) → (-2147483648 ≤ (m' 83 41) ∧ (m' 83 41) < 2147483648) ∧ (m' 83 41 = -1 → Q (m' 83 41) m') ∧ (m' 83 41 ≠ -1 → (-2147483648 ≤ y ∧ y < 2147483648) ∧ (y ≠ 1 → Q (m' 83 42) m') ∧ (y = 1 → Q (m' 83 41) m')) := by
    intro m' g1 g2
    have hinv := sqF_inv (R := rowP (kNm K).toNat) (M := mnP q (kNm K).toNat) (O := okL K B pf q x (kNm K).toNat) (3 ^ (kNm K).toNat) 0 (-1, -1) (by decide) (Or.inl rfl)
    have hnone := sqF_none (R := rowP (kNm K).toNat) (M := mnP q (kNm K).toNat) (O := okL K B pf q x (kNm K).toNat) (fun k hk => by have := rowP_nn (kNm K).toNat k; omega) (3 ^ (kNm K).toNat) 0 (-1, -1) (by decide) (fun _ => rfl)
    have etr : sqF (rowP (kNm K).toNat) (mnP q (kNm K).toNat) (okL K B pf q x (kNm K).toNat) (3 ^ (kNm K).toNat) 0 (-1, -1) = trS K B pf q x := rfl
    rw [etr] at hinv hnone
    have n3 : ((3 : Int) ^ (kNm K).toNat) = ((3 ^ (kNm K).toNat : Nat) : Int) := by simp
    have hrange : -1 ≤ (trS K B pf q x).1 ∧ (trS K B pf q x).1 ≤ 222222 := by
      rcases hinv with e | ⟨k', a, b, e⟩
      · omega
      · have := rowP_r (n := (kNm K).toNat) (k := k') (by omega) a (by omega)
        omega
    have hG := h m' g1
    unfold FTurn at hG
    rw [if_neg (by omega)] at hG
    obtain ⟨c1, c2⟩ := g2
    refine ⟨by omega, fun e => ?_, fun e => ⟨by omega, fun e2 => ?_, fun e2 => ?_⟩⟩
    · have e3 := hnone (by omega)
      rw [e]
      by_cases y0 : y = 0
      · rw [if_pos y0, e3] at hG
        exact hG
      · rw [if_neg y0, ← c1, e] at hG
        exact hG
    · rw [if_pos (by omega), ← c2 (by omega)] at hG
      exact hG
    · rw [if_neg (by omega), ← c1] at hG
      exact hG
  obtain ⟨t, ht⟩ : ∃ t, t = (kNm K).toNat := ⟨_, rfl⟩
  obtain ⟨d', hd'⟩ : ∃ d', d + 17 = d' + 10 + t := ⟨d + 7 - t, by omega⟩
  rw [hd']
  have e0 : (0 : Int) = ((0 : Nat) : Int) := rfl
  have key := M_tryLeans_c (d := d') (q := q) (B := B) (pf := pf) hB hp (y := x) ⟨z1, z2⟩ t 0 0 0 0 (up m 83 41 (-1)) (-1, -1) (fun m' => (-2147483648 ≤ (m' 83 41) ∧ (m' 83 41) < 2147483648) ∧ (m' 83 41 = -1 → Q (m' 83 41) m') ∧ (m' 83 41 ≠ -1 → (-2147483648 ≤ y ∧ y < 2147483648) ∧ (y ≠ 1 → Q (m' 83 42) m') ∧ (y = 1 → Q (m' 83 41) m'))) (hI.sm s1) (by omega) (by omega) (by decide) rfl rfl (fun j j1 j2 => by omega) ⟨up_same _ _ _ _, fun e => absurd rfl e⟩ (Or.inl rfl) (fun e => absurd rfl e) (fun m' g1 _ g3 => hF m' (s1.tr g1) ?_)
  · exact key
  · rw [Int.zero_mul, ht] at g3
    exact g3
end Turn2
