/-! ===== seating: both sides ===== -/
def seT (K : Kn) (B : Int → Int) (pf : Pf) (q : Int → Int) (x : Int) : Int × Int := seF K B pf q x (dfL (kNm K).toNat (kNm K).toNat (pw (kNm K) - 1)) (-1, -1)
def FSeat (K : Kn) (B : Int → Int) (pf : Pf) (q : Int → Int) (x y : Int) : Int := if kNm K = 0 ∨ x < 0 ∨ 2 < x ∨ y < 0 ∨ 1 < y then -1 else if y = 0 then (seT K B pf q x).2 else (seT K B pf q x).1
def chL (n t : Nat) (y : Int) (p : List Int) (l : Nat) : List (List Int) := if bit y (l : Int) = 1 then (dfL n t (rmB y l)).map (fun r => (p ++ [(l : Int)]) ++ r) else []
theorem df_ch (n t : Nat) (y : Int) (p : List Int) : (dfL n (t + 1) y).map (fun r => p ++ r) = (List.range n).flatMap (chL n t y p) := by
  unfold dfL
  rw [List.map_flatMap]
  congr 1
  funext l
  unfold chL
  by_cases z : bit y (l : Int) = 1
  · rw [if_pos z, if_pos z, List.map_map]
    show List.map _ (dfL n t (rmB y l)) = _
    congr 1
    funext r
    show p ++ ((l : Int) :: r) = (p ++ [(l : Int)]) ++ r
    rw [List.append_assoc]
    rfl
  · rw [if_neg z, if_neg z]
    rfl
theorem seT_r {K : Kn} {B q : Int → Int} {pf : Pf} {x : Int} (hn : 0 ≤ kNm K ∧ kNm K ≤ 6) : (seT K B pf q x = (-1, -1)) ∨ (0 ≤ (seT K B pf q x).1 ∧ (seT K B pf q x).1 < 1000000 ∧ 0 ≤ (seT K B pf q x).2 ∧ (seT K B pf q x).2 ≤ 6) := by
  unfold seT
  rcases seF_inv (K := K) (B := B) (q := q) (pf := pf) (x := x) (dfL (kNm K).toNat (kNm K).toNat (pw (kNm K) - 1)) (-1, -1) with e | ⟨L, h1, h2⟩
  · exact Or.inl e
  · rw [h2]
    have ek : (((kNm K).toNat : Nat) : Int) = kNm K := by omega
    rw [← ek] at h1
    rw [Int.toNat_natCast] at h1
    obtain ⟨g1, g2⟩ := dfL_pm (n := (kNm K).toNat) (by omega) h1
    have g3 := mvS_r q L 0
    have g4 := rwL_r L 0 (fun a ha => by
      obtain ⟨i, hi, e⟩ := List.getElem_of_mem ha
      have := g2.1.1 i (by omega) (by omega)
      rw [fnL_get (by omega) (by omega)] at this
      have e' : L[(i : Int).toNat]'(by omega) = a := e
      omega)
    have p10 : ∀ k : Nat, k ≤ 6 → (10 : Int) ^ k ≤ 1000000 := by decide
    have := p10 L.length (by omega)
    exact Or.inr ⟨by show 0 ≤ rwL 0 L; omega, by show rwL 0 L < 1000000; omega, by show 0 ≤ mvS q L 0; omega, by show mvS q L 0 ≤ 6; omega⟩
section Seat8
variable {X : Cx} {d : Nat} {Q0 : Mm → Prop} {c : Nat} {K : Kn} {B q : Int → Int} {pf : Pf}
theorem M_trySeats_c (hB : Bsh X.2.2.1) (hp : 0 < kNm K) {z : Int} (hz : 0 ≤ z ∧ z ≤ 2) : ∀ (t : Nat) (p : List Int) (y : Int) (m : Mm) (s : Int × Int) (Q0 : Mm → Prop), MI X m K B pf q → p.length + t = (kNm K).toNat → (0 ≤ y ∧ y < 64) → pcN y = t → (∀ a ∈ p, 0 ≤ a ∧ a ≤ 9) → (∀ r ∈ dfL (kNm K).toNat t y, PmS (kNm K) (fnL (p ++ r))) → (∀ j : Int, 0 ≤ j → j < p.length → m 106 j = fnL p j) → mS m s → (s.1 = -1 ∨ (0 ≤ s.1 ∧ s.1 < rwL 0 p * 10 ^ t)) → (s.1 ≠ -1 → 0 ≤ s.2 ∧ s.2 ≤ 6) → (∀ m', SmM m m' → (∀ j : Int, 0 ≤ j → j < p.length → m' 106 j = m 106 j) → mS m' (seF K B pf q z ((dfL (kNm K).toNat t y).map (fun r => p ++ r)) s) → Q0 m') → M_trySeats X (d + 10 + t) p.length y z (rwL 0 p) (mvS q p 0) m Q0 := by
  intro t
  induction t with
  | zero =>
    intro p y m s Q0 hI hx hy hpc hpr hpm h106 hs hi hs2 h
    have hn := hI.2.2.2.1
    have y0 : y = 0 := (pc_0 hy).mp hpc
    have hf : PmS (kNm K) (fnL p) := by
      have := hpm [] (by unfold dfL; simp)
      rwa [List.append_nil] at this
    have hmr := mvS_r q p 0
    have hrr := rwL_r p 0 hpr
    have p10 : ∀ k : Nat, k ≤ 6 → (10 : Int) ^ k ≤ 1000000 := by decide
    have h10 := p10 p.length (by omega)
    rw [Int.pow_zero, Int.mul_one] at hi
    refine M_trySeatsw hB ⟨by omega, fun e => absurd y0 e, fun _ => M_putAside_t hB (fun m1 t1 t2 t3 t4 t5 => ?_)⟩
    refine M_trySeats_11_c hB hI hp hf (by omega) (fun j h1 h2 => h106 j h1 (by omega)) (kNm K).toNat m1 0 (by omega) (by omega) t1 (t5 106 (by decide)) (fun i h1 h2 => by omega) (fun j _ => by rw [t2, hI.2.2.1]) (fun m' g1 g2 g3 => ?_)
    have hms : mS m' s := by
      unfold mS
      rw [g3 41 (by decide) (by decide) (by decide), g3 42 (by decide) (by decide) (by decide), t4 41 (by decide), t4 42 (by decide)]
      exact hs
    have el : (dfL (kNm K).toNat 0 y).map (fun r => p ++ r) = [p] := by
      show [p ++ []] = [p]
      rw [List.append_nil]
    rw [el] at h
    refine ⟨fun e => h m' g1 (fun j _ _ => by rw [g2]) ?_, fun e => M_tryRow_c hB hms (by omega) (by omega) hi hs2 (fun m2 w1 w2 w3 => h m2 (g1.tr ⟨fun k hk => w1 k (fun z => hk (by unfold scF; omega)) (fun z => hk (by unfold scF; omega)), w2.wd (by decide)⟩) (fun j _ _ => by rw [w2 106 (by decide), g2]) ?_)⟩
    · show mS m' (seR K B pf q z p s)
      unfold seR
      rw [if_neg (fun w => e w.2)]
      exact hms
    · show mS m2 (seR K B pf q z p s)
      unfold seR
      by_cases w : s.1 = -1 ∨ mvS q p 0 < s.2
      · rw [if_pos ⟨w, e⟩]
        have hb : (decide (s.1 = -1) || decide (mvS q p 0 < s.2)) = true := by
          rcases w with w | w
          · rw [decide_eq_true w]; rfl
          · rw [decide_eq_true w, Bool.or_true]
        rw [hb, if_pos rfl] at w3
        exact w3
      · rw [if_neg (fun w2 => w w2.1)]
        have hb : (decide (s.1 = -1) || decide (mvS q p 0 < s.2)) = false := by
          rw [decide_eq_false (fun e => w (Or.inl e)), decide_eq_false (fun e => w (Or.inr e))]
          rfl
        rw [hb] at w3
        exact w3
  | succ t ih =>
    intro p y m s Q0 hI hx hy hpc hpr hpm h106 hs hi hs2 h
    have hn := hI.2.2.2.1
    have y0 : y ≠ 0 := fun e => by
      have := (pc_0 hy).mpr e
      omega
    rw [df_ch, List.range_eq_range'] at h
    obtain ⟨P, hP⟩ : ∃ P : Int, P = 10 ^ t := ⟨_, rfl⟩
    have hP0 : 0 < P := by rw [hP]; exact Int.pow_pos (by decide)
    have hi0 : s.1 = -1 ∨ (0 ≤ s.1 ∧ s.1 < (10 * rwL 0 p + ((0 : Nat) : Int)) * P) := by
      rw [Int.pow_succ, ← hP] at hi
      have e1 : rwL 0 p * (P * 10) = (10 * rwL 0 p) * P := by rw [Int.mul_comm P 10, ← Int.mul_assoc, Int.mul_comm (rwL 0 p) 10]
      rw [e1] at hi
      rw [show 10 * rwL 0 p + ((0 : Nat) : Int) = 10 * rwL 0 p by omega]
      exact hi
    refine M_trySeatsw hB ⟨by omega, fun _ => ?_, fun e => absurd e y0⟩
    have loop : ∀ (f l : Nat) (m1 : Mm) (s1 : Int × Int), l + f = (kNm K).toNat → SmM m m1 → (∀ j : Int, 0 ≤ j → j < p.length → m1 106 j = m 106 j) → mS m1 s1 → (s1.1 = -1 ∨ (0 ≤ s1.1 ∧ s1.1 < (10 * rwL 0 p + (l : Int)) * P)) → (s1.1 ≠ -1 → 0 ≤ s1.2 ∧ s1.2 ≤ 6) → (∀ m', SmM m m' → (∀ j : Int, 0 ≤ j → j < p.length → m' 106 j = m 106 j) → mS m' (seF K B pf q z ((List.range' l f).flatMap (chL (kNm K).toNat t y p)) s1) → Q0 m') → M_trySeats_71 X (d + 10 + (t + 1)) p.length y z (rwL 0 p) (mvS q p 0) l m1 Q0 := by
      intro f
      induction f with
      | zero =>
        intro l m1 s1 hl g1 g2 g3 g4 g5 g6
        have e28 := (hI.sm g1).n
        refine M_trySeats_71w hB ⟨by omega, by omega, fun _ => g6 m1 g1 g2 g3, fun e => by omega⟩
      | succ f ih2 =>
        intro l m1 s1 hl g1 g2 g3 g4 g5 g6
        have hI1 := hI.sm g1
        have e28 := hI1.n
        have el : List.range' l (f + 1) = l :: List.range' (l + 1) f := rfl
        rw [el, List.flatMap_cons] at g6
        have em : (10 * rwL 0 p + (l : Int)) * P + P = (10 * rwL 0 p + ((l + 1 : Nat) : Int)) * P := by
          rw [show 10 * rwL 0 p + ((l + 1 : Nat) : Int) = (10 * rwL 0 p + (l : Int)) + 1 by omega, Int.add_mul (10 * rwL 0 p + (l : Int)) 1, Int.one_mul]
        have el1 : ((l : Int) + 1) = ((l + 1 : Nat) : Int) := by omega
        refine M_trySeats_71w hB ⟨by omega, by omega, fun e => by omega, fun _ => M_has_c (fun hb => ⟨by decide, fun _ => ?_, fun e => absurd rfl e⟩) (fun hb => ⟨by decide, fun e => absurd e (by decide), fun _ => ⟨by omega, by omega, ?_, by omega, ?_⟩⟩)⟩
        · rw [el1]
          refine ih2 (l + 1) m1 s1 (by omega) g1 g2 g3 (g4.imp id (fun w => ⟨w.1, by omega⟩)) g5 (fun m' a1 a2 a3 => g6 m' a1 a2 ?_)
          have ec : chL (kNm K).toNat t y p l = [] := by
            unfold chL
            rw [if_neg (by omega)]
          rw [ec, List.nil_append]
          exact a3
        · have hq3 : m1 101 ((l : Int) + 12) = q ((l : Int) + 12) := by rw [hI1.2.2.1]
          have hqx := (hI1.2.2.2.2 hp).2.2.1 l (by omega) (by omega)
          rw [hq3, Int.add_comm]
          omega
        · have hq3 : m1 101 ((l : Int) + 12) = q (12 + (l : Int)) := by rw [hI1.2.2.1, Int.add_comm]
          have sm1 : SmM m1 (up m1 106 p.length l) := ⟨fun k _ => by rw [up_ne (Or.inl (by decide))], (Fr.rf _ _).up (by simp)⟩
          have ec : chL (kNm K).toNat t y p l = (dfL (kNm K).toNat t (rmB y l)).map (fun r => (p ++ [(l : Int)]) ++ r) := by
            unfold chL
            rw [if_pos hb]
          rw [ec] at g6
          have hrm := rm_b (y := y) (l := l) hy (by omega)
          have elen : (((p ++ [(l : Int)]).length : Nat) : Int) = (p.length : Int) + 1 := by simp
          have erw : rwL 0 (p ++ [(l : Int)]) = 10 * rwL 0 p + l := by rw [rwL_app]; rfl
          have hpr' : ∀ a ∈ p ++ [(l : Int)], 0 ≤ a ∧ a ≤ 9 := by
            intro a ha
            rcases List.mem_append.mp ha with ha | ha
            · exact hpr a ha
            · have := List.mem_singleton.mp ha
              omega
          have hmem : ∀ r ∈ dfL (kNm K).toNat t (rmB y l), ((l : Int) :: r) ∈ dfL (kNm K).toNat (t + 1) y := by
            intro r hr
            unfold dfL
            rw [List.mem_flatMap]
            exact ⟨l, List.mem_range.mpr (by omega), by rw [if_pos hb]; exact List.mem_map_of_mem hr⟩
          have call : ∀ v', v' = mvS q (p ++ [(l : Int)]) 0 → M_trySeats X (d + 10 + t) ((p.length : Int) + 1) (rmB y l) z (10 * rwL 0 p + l) v' (up m1 106 p.length l) (fun m140 => M_trySeats_71 X (d + 10 + (t + 1)) p.length y z (rwL 0 p) (mvS q p 0) ((l : Int) + 1) m140 Q0) := by
            intro v' hv'
            rw [hv', ← elen, ← erw]
            refine ih (p ++ [(l : Int)]) (rmB y l) _ s1 _ (hI1.sm sm1) (by simp; omega) hrm.1 (by rw [rm_p hy (by omega) hb]; omega) hpr' (fun r hr => ?_) (fun j j1 j2 => ?_) ?_ ?_ g5 (fun m' a1 a2 a3 => ?_)
            · have := hpm _ (hmem r hr)
              rw [List.append_assoc]
              exact this
            · rw [elen] at j2
              rw [up_at]
              by_cases zj : j = p.length
              · rw [if_pos zj, zj, fnL_app]
              · rw [if_neg zj, g2 j j1 (by omega), h106 j j1 (by omega), fnL_lt j1 (by omega)]
            · unfold mS
              rw [up_ne (Or.inl (by decide)), up_ne (Or.inl (by decide))]
              exact g3
            · rw [erw, ← hP]
              exact g4
            · have smA := (g1.tr sm1).tr a1
              rw [el1]
              have hq := seF_inv (K := K) (B := B) (q := q) (pf := pf) (x := z) ((dfL (kNm K).toNat t (rmB y l)).map (fun r => (p ++ [(l : Int)]) ++ r)) s1
              have hrow : ∀ L ∈ (dfL (kNm K).toNat t (rmB y l)).map (fun r => (p ++ [(l : Int)]) ++ r), (0 ≤ rwL 0 L ∧ rwL 0 L < (10 * rwL 0 p + ((l + 1 : Nat) : Int)) * P) ∧ 0 ≤ mvS q L 0 ∧ mvS q L 0 ≤ 6 := by
                intro L hL
                obtain ⟨r, hr, rfl⟩ := List.mem_map.mp hL
                obtain ⟨r1, r2, -, -⟩ := dfL_mem (by omega) t (rmB y l) hrm.1 (by rw [rm_p hy (by omega) hb]; omega) r hr
                have b1 := rwL_r r (rwL 0 (p ++ [(l : Int)])) (fun a ha => by have := r2 a ha; omega)
                have b0 := rwL_r (p ++ [(l : Int)]) 0 hpr'
                rw [Int.zero_mul] at b0
                have b2 := mvS_r q (p ++ [(l : Int)] ++ r) 0
                have b3 : (p ++ [(l : Int)] ++ r).length ≤ 6 := by simp; omega
                rw [rwL_app]
                rw [r1, erw, ← hP] at b1
                rw [erw] at b0
                have b4 : 0 ≤ (10 * rwL 0 p + (l : Int)) * P := Int.mul_nonneg b0.1 (by omega)
                rw [erw]
                have b5 : (10 * rwL 0 p + (l : Int) + 1) * P = (10 * rwL 0 p + ((l + 1 : Nat) : Int)) * P := by
                  rw [show 10 * rwL 0 p + (l : Int) + 1 = 10 * rwL 0 p + ((l + 1 : Nat) : Int) by omega]
                rw [b5] at b1
                exact ⟨⟨by omega, b1.2⟩, b2.1, by omega⟩
              refine ih2 (l + 1) m' (seF K B pf q z ((dfL (kNm K).toNat t (rmB y l)).map (fun r => (p ++ [(l : Int)]) ++ r)) s1) (by omega) smA (fun j j1 j2 => ?_) a3 ?_ ?_ (fun m2 w1 w2 w3 => g6 m2 w1 w2 ?_)
              · rw [a2 j j1 (by omega), up_ne (Or.inr (by omega))]
                exact g2 j j1 j2
              · rcases hq with e | ⟨L, e1, e2⟩
                · rw [e]
                  exact g4.imp id (fun w => ⟨w.1, by omega⟩)
                · rw [e2]
                  exact Or.inr (hrow L e1).1
              · rcases hq with e | ⟨L, e1, e2⟩
                · rw [e]; exact g5
                · rw [e2]; exact fun _ => (hrow L e1).2
              · rw [seF_app]
                exact w3
          have esn := mvS_snoc q l p 0
          rw [Int.zero_add] at esn
          rw [hq3]
          refine ⟨fun e => call _ ?_, fun e => call _ ?_⟩
          · rw [esn, if_neg e]
          · rw [esn, if_pos e, Int.add_zero]
    exact loop (kNm K).toNat 0 m s (by omega) (SmM.rf m) (fun _ _ _ => rfl) hs hi0 hs2 h
/-- the class goes through its orders -/
theorem O_seats_60_c (hB : Bsh X.2.2.1) {m0 : Mm} {x : Int} (hx : 0 ≤ x ∧ x ≤ 2) (hp : 0 < kNm K) {n4 : Int} (hn4 : n4 ≤ 1000) : ∀ (k : Nat) (L : List Int) (m : Mm) (l5 : Int) (o6 o7 o8 : Option Int) (s : Int × Int), CI X m c K B pf q → 0 ≤ l5 → n4 - l5 = k → SmC m0 m → (∀ j, 0 ≤ j → j < kNm K → m 70 j = fnL L j) → (∀ L' ∈ itL (kNm K).toNat k L, L'.length = (kNm K).toNat ∧ PmS (kNm K) (fnL L')) → cS m s → (∀ m', SmC m0 m' → cS m' (seF K B pf q x (itL (kNm K).toNat k L) s) → Q0 m') → O_searchSeats_60 X (d + 9) x (kNm K) n4 l5 o6 o7 o8 m Q0 := by
  intro k
  induction k with
  | zero =>
    intro L m l5 o6 o7 o8 s hI hl hk hs h70 hL hc h
    exact O_searchSeats_60w hB ⟨by omega, by omega, fun _ => h m hs hc, fun e => by omega⟩
  | succ k ih =>
    intro L m l5 o6 o7 o8 s hI hl hk hs h70 hL hc h
    have hn := hI.2.2.2.2.1
    have eit : itL (kNm K).toNat (k + 1) L = L :: itL (kNm K).toNat k (nxL (kNm K).toNat L) := rfl
    rw [eit] at hL h
    obtain ⟨h1, h2⟩ := hL L List.mem_cons_self
    obtain ⟨c1, c2, c3⟩ := hc
    have eR := seO_R (B := B) (q := q) (pf := pf) (x := x) (s := s) hn.1 h1 h2 (by omega)
    refine O_searchSeats_60w hB ⟨by omega, by omega, fun e => by omega, fun _ => O_seats_one_c hB hI hp h2 h70 hx (s := s) ⟨c2, c1⟩ (by omega) (fun m1 a6 a7 a8 g1 g2 g3 => ?_)⟩
    have ek : (((kNm K).toNat : Nat) : Int) = kNm K := by omega
    have hnx := O_nextOrder_c (X := X) (d := d + 7) (n := (kNm K).toNat) (m := m1) (Q0 := fun m194 => O_searchSeats_60 X (d + 9) x (kNm K) n4 (l5 + 1) a6 a7 a8 m194 Q0) hB (by omega) (fun j j1 j2 => by
      rw [g2, h70 j j1 (by omega)]
      have := h2.1.1 j j1 (by omega)
      exact ⟨by omega, by omega⟩)
    rw [ek] at hnx
    refine hnx (fun m2 w1 w2 => ?_)
    have s2 : SmC m1 m2 := SmC.fr w2 (by decide)
    have hb : bS m2 (seR K B pf q x L s) := by
      unfold bS
      rw [w2 66 (by decide), ← eR]
      exact g3
    have hcR : (seR K B pf q x L s).1 = -1 ∧ (seR K B pf q x L s).2 = -1 ∨ (seR K B pf q x L s).1 ≠ -1 ∧ 0 ≤ (seR K B pf q x L s).2 ∧ (seR K B pf q x L s).2 ≤ 6 := by
      unfold seR
      split
      · have b2 := mvS_r q L 0
        have b1 := rwL_r L 0 (fun a ha => by
          obtain ⟨i, hi, e⟩ := List.getElem_of_mem ha
          have := h2.1.1 i (by omega) (by omega)
          rw [fnL_get (by omega) (by omega)] at this
          have e' : L[(i : Int).toNat]'(by omega) = a := e
          omega)
        rw [Int.zero_mul] at b1
        exact Or.inr ⟨by show rwL 0 L ≠ -1; omega, by show 0 ≤ mvS q L 0; omega, by show mvS q L 0 ≤ 6; omega⟩
      · exact c3
    refine ih (nxL (kNm K).toNat L) m2 (l5 + 1) a6 a7 a8 _ ((hI.sm g1).sm s2) (by omega) (by omega) ((hs.tr g1).tr s2) (fun j j1 j2 => ?_) (fun L' hL' => hL L' (List.mem_cons_of_mem _ hL')) ⟨hb.2, hb.1, hcR⟩ h
    rw [w1, g2]
    unfold nxL
    rw [fnL_lst j j1 (by omega)]
    exact nxF_cg (by omega) (fun i i1 i2 => h70 i i1 (by omega)) j j1 (by omega)
theorem O_seats_17_c (hB : Bsh X.2.2.1) {m0 : Mm} {x : Int} (hp : 0 < kNm K ∧ kNm K ≤ 6) (h : ∀ m, SmC m0 m → (∀ j, 0 ≤ j → j < kNm K → m 70 j = j) → m 66 1 = -1 → m 66 2 = -1 → O_searchSeats_60 X (d + 1) x (kNm K) (fcN (kNm K).toNat) 0 none none none m Q0) : ∀ (f t : Nat) (m : Mm), kNm K - t = f → SmC m0 m → (∀ j, 0 ≤ j → j < (t : Int) → m 70 j = j) → O_searchSeats_17 X (d + 1) x (kNm K) (fcN t) t m Q0 := by
  intro f
  induction f with
  | zero =>
    intro t m ht hs h70
    have e : t = (kNm K).toNat := by omega
    rw [← e] at h
    refine O_searchSeats_17w hB ⟨by omega, by omega, fun _ => h _ (hs.tr (SmC.fr (((Fr.rf [66] _).up (by simp)).up (by simp)) (by decide))) (fun j a b => ?_) (by rw [up_ne (Or.inr (by decide)), up_same]) (by rw [up_same]), fun e => by omega⟩
    rw [up_ne (Or.inl (by decide)), up_ne (Or.inl (by decide))]
    exact h70 j a (by omega)
  | succ f ih =>
    intro t m ht hs h70
    refine O_searchSeats_17w hB ⟨by omega, by omega, fun e => by omega, fun _ => ⟨by omega, ?_⟩⟩
    have e : ((fcN t : Nat) : Int) * ((t : Int) + 1) = ((fcN (t + 1) : Nat) : Int) := by
      show _ = ((fcN t * (t + 1) : Nat) : Int)
      rw [Int.natCast_mul]
      rfl
    have e2 : ((t : Int) + 1) = ((t + 1 : Nat) : Int) := by omega
    rw [e, e2]
    refine ih (t + 1) _ (by omega) (hs.tr (SmC.fr ((Fr.rf [70] _).up (by simp)) (by decide))) (fun j a b => ?_)
    rw [up_at]
    by_cases z : j = t
    · rw [if_pos z, z]
    · rw [if_neg z]; exact h70 j a (by omega)
theorem fc_r : ∀ n : Nat, n ≤ 6 → fcN n ≤ 720 := by decide
theorem V_seating_c (hB : Bsh X.2.2.1) {m : Mm} {Q : Int → Mm → Prop} (hI : CI X m c K B pf q) {x y : Int} (hx : R3 x) (hy : R3 y) (h : ∀ m', SmC m m' → Q (FSeat K B pf q x y) m') : V_seating X (d + 12) x y m Q := by
  have hn := hI.mem
  have h4 := hI.2.2.2.1
  have no : (kNm K = 0 ∨ x < 0 ∨ 2 < x ∨ y < 0 ∨ 1 < y) → Q (-1) m := fun e => by
    have := h m (SmC.rf m)
    unfold FSeat at this
    rw [if_pos e] at this
    exact this
  refine V_seatingw hB (V_hasCanton_c hB hI.1 hI.2.1 hn (fun hp => q1e (V_isSide_c hB hx (fun z1 z2 => q1e ⟨hy, fun e => no (by omega), fun z3 => ⟨fun z4 => ?_, fun e => no (by omega)⟩⟩) (fun e => q0e (no (by omega))))) (fun e => q0e (no (by omega))))
  refine O_searchSeatsw hB ⟨c, hI.1, hI.2.2.1, ?_⟩
  rw [h4]
  rw [h4] at hn hp
  have e0 : (1 : Int) = ((fcN 0 : Nat) : Int) := rfl
  have e1 : (0 : Int) = ((0 : Nat) : Int) := rfl
  rw [e0, e1]
  have hfc := fc_r (kNm K).toNat (by omega)
  have ek : (((kNm K).toNat : Nat) : Int) = kNm K := by omega
  have hord := ord_n (n := (kNm K).toNat) (by omega)
  rw [ek] at hord
  refine O_seats_17_c (m0 := m) hB (by omega) (fun m1 s1 h70 g1 g2 => O_seats_60_c (m0 := m) (n4 := ((fcN (kNm K).toNat : Nat) : Int)) hB ⟨z1, z2⟩ hp (by omega) (fcN (kNm K).toNat) (lstF (kNm K).toNat (fun i => i)) m1 0 none none none (-1, -1) (hI.sm s1) (by omega) (by omega) s1 (fun j a b => by rw [h70 j a b, fnL_lst j a (by omega)]) (fun L' hL' => ?_) ⟨g2, g1, Or.inl ⟨rfl, rfl⟩⟩ (fun m' w1 w2 => ?_)) (kNm K).toNat 0 m (by omega) (SmC.rf m) (fun j a b => by omega)
  · rw [hord, ← ek, Int.toNat_natCast] at hL'
    have := dfL_pm (n := (kNm K).toNat) (by omega) hL'
    rw [ek] at this
    exact this
  · rw [hord] at w2
    have := h m' w1
    unfold FSeat seT at this
    rw [if_neg (by omega)] at this
    refine ⟨fun e => ?_, fun e => ?_⟩
    · rw [if_neg (by omega)] at this
      rw [w2.1]
      exact this
    · rw [if_pos (by omega)] at this
      show Q (m' 66 1) m'
      rw [w2.2.1]
      exact this
theorem M_seating_c (hB : Bsh X.2.2.1) {m : Mm} {Q : Int → Mm → Prop} (hI : MI X m K B pf q) {x y : Int} (hx : R3 x) (hy : R3 y) (h : ∀ m', SmM m m' → Q (FSeat K B pf q x y) m') : M_seating X (d + 18) x y m Q := by
  have hn := hI.2.2.2.1
  have no : (kNm K = 0 ∨ x < 0 ∨ 2 < x ∨ y < 0 ∨ 1 < y) → Q (-1) m := fun e => by
    have := h m (SmM.rf m)
    unfold FSeat at this
    rw [if_pos e] at this
    exact this
  refine M_seatingw hB (M_isSide_c hB hI hx hy (fun hp z1 z2 z3 z4 => ⟨by decide, fun _ => ?_, fun e => absurd e (by decide)⟩) (fun e => ⟨by decide, fun e2 => absurd rfl e2, fun _ => no e⟩))
  have s1 : SmM m (up m 83 41 (-1)) := ⟨fun k hk => up_ne (Or.inr (fun e => hk (by unfold scF; omega))), (Fr.rf _ _).up (by simp)⟩
  have e28 : (up m 83 41 (-1)) 83 28 = kNm K := (hI.sm s1).n
  refine M_everybody_c hB (by omega) ?_
  rw [e28]
  have hF : ∀ m', SmM m m' → mS m' (seT K B pf q x) → (-2147483648 ≤ (m' 83 41) ∧ (m' 83 41) < 2147483648) ∧ (m' 83 41 = -1 → Q (m' 83 41) m') ∧ (m' 83 41 ≠ -1 → (-2147483648 ≤ y ∧ y < 2147483648) ∧ (y ≠ 1 → Q (m' 83 42) m') ∧ (y = 1 → Q (m' 83 41) m')) := by
    intro m' g1 g2
    have hr := seT_r (B := B) (q := q) (pf := pf) (x := x) hn
    have hG := h m' g1
    unfold FSeat at hG
    rw [if_neg (by omega)] at hG
    obtain ⟨c1, c2⟩ := g2
    have hr1 : -1 ≤ (seT K B pf q x).1 ∧ (seT K B pf q x).1 < 1000000 := by
      rcases hr with e | e
      · rw [e]; exact ⟨Int.le_refl _, by show (-1 : Int) < 1000000; decide⟩
      · omega
    refine ⟨by omega, fun e => ?_, fun e => ⟨by omega, fun e2 => ?_, fun e2 => ?_⟩⟩
    · have e3 : seT K B pf q x = (-1, -1) := by
        rcases hr with e3 | e3
        · exact e3
        · omega
      rw [e]
      rw [e3] at hG
      by_cases y0 : y = 0
      · rw [if_pos y0] at hG
        exact hG
      · rw [if_neg y0] at hG
        exact hG
    · rw [if_pos (by omega), ← c2 (by omega)] at hG
      exact hG
    · rw [if_neg (by omega), ← c1] at hG
      exact hG
  obtain ⟨t, ht⟩ : ∃ t, t = (kNm K).toNat := ⟨_, rfl⟩
  obtain ⟨d', hd'⟩ : ∃ d', d + 17 = d' + 10 + t := ⟨d + 7 - t, by omega⟩
  rw [hd']
  have ek : (((kNm K).toNat : Nat) : Int) = kNm K := by omega
  obtain ⟨a1, a2, a3, a4⟩ := all_t (kNm K).toNat (by omega)
  rw [ek] at a1 a2 a3 a4
  refine M_trySeats_c (d := d') (q := q) (B := B) (pf := pf) hB hp (z := x) ⟨z1, z2⟩ t [] (pw (kNm K) - 1) (up m 83 41 (-1)) (-1, -1) _ (hI.sm s1) (by simp; omega) ⟨a1, a2⟩ (by omega) (fun a ha => by simp at ha) (fun r hr => ?_) (fun j j1 j2 => by simp at j2; omega) ⟨up_same _ _ _ _, fun e => absurd rfl e⟩ (Or.inl rfl) (fun e => absurd rfl e) (fun m' g1 _ g3 => hF m' (s1.tr g1) ?_)
  · rw [ht, ← ek, Int.toNat_natCast] at hr
    have := (dfL_pm (n := (kNm K).toNat) (by omega) hr).2
    rw [ek] at this
    exact this
  · have el : (dfL (kNm K).toNat t (pw (kNm K) - 1)).map (fun r => [] ++ r) = dfL (kNm K).toNat (kNm K).toNat (pw (kNm K) - 1) := by
      rw [ht]
      show List.map (fun r => r) _ = _
      rw [List.map_id']
    rw [el] at g3
    exact g3
end Seat8
section Seat9
variable {X : Cx} {d : Nat} {m : Mm} {A : Ab} {t : Int}
theorem op_seating (hH : HLaw) (hB : Bsh X.2.2.1) (hI : InvA X m A t) {x y : Int} (hx : R3 x) (hy : R3 y) : Bth X A t (V_seating X (d + 20) x y) (M_seating X (d + 20) x y) m := bth_ro hH hB hI (fun _ _ hc h => V_seating_c hB hc hx hy h) (fun _ _ hc h => M_seating_c hB hc hx hy h)
end Seat9
