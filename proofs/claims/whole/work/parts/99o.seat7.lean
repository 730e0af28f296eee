/-! ===== seating: the orders as a tree; moves counted by seats and by members ===== -/
def pcN (y : Int) : Int := bit y 0 + bit y 1 + bit y 2 + bit y 3 + bit y 4 + bit y 5
def rmB (y l : Int) : Int := iA y (iX (iSl 1 l) (-1))
theorem rm_t : ∀ y : Nat, y < 64 → ∀ l : Nat, l < 6 → 0 ≤ rmB y l ∧ rmB y l < 64 ∧ (∀ j : Nat, j < 6 → bit (rmB y l) j = if j = l then 0 else bit y j) := by decide +kernel
theorem pc_t : ∀ y : Nat, y < 64 → (pcN y = 0 → y = 0) ∧ (y = 0 → pcN y = 0) := by decide +kernel
theorem all_t : ∀ n : Nat, n ≤ 6 → 0 ≤ pw n - 1 ∧ pw n - 1 < 64 ∧ pcN (pw n - 1) = n ∧ ∀ j : Nat, j < 6 → bit (pw n - 1) j = if j < n then 1 else 0 := by decide +kernel
theorem rm_b {y l : Int} (hy : 0 ≤ y ∧ y < 64) (hl : 0 ≤ l ∧ l < 6) : (0 ≤ rmB y l ∧ rmB y l < 64) ∧ ∀ j, 0 ≤ j → j < 6 → bit (rmB y l) j = if j = l then 0 else bit y j := by
  obtain ⟨h1, h2, h3⟩ := rm_t y.toNat (by omega) l.toNat (by omega)
  rw [show ((y.toNat : Nat) : Int) = y by omega, show ((l.toNat : Nat) : Int) = l by omega] at h1 h2 h3
  refine ⟨⟨h1, h2⟩, fun j a b => ?_⟩
  have := h3 j.toNat (by omega)
  rw [show ((j.toNat : Nat) : Int) = j by omega] at this
  rw [this]
  by_cases z : j = l
  · rw [if_pos z, if_pos (by omega)]
  · rw [if_neg z, if_neg (by omega)]
theorem rm_p {y l : Int} (hy : 0 ≤ y ∧ y < 64) (hl : 0 ≤ l ∧ l < 6) (hb : bit y l = 1) : pcN (rmB y l) = pcN y - 1 := by
  have h := (rm_b hy hl).2
  have a0 := h 0 (by decide) (by decide)
  have a1 := h 1 (by decide) (by decide)
  have a2 := h 2 (by decide) (by decide)
  have a3 := h 3 (by decide) (by decide)
  have a4 := h 4 (by decide) (by decide)
  have a5 := h 5 (by decide) (by decide)
  unfold pcN
  have hc : l = 0 ∨ l = 1 ∨ l = 2 ∨ l = 3 ∨ l = 4 ∨ l = 5 := by omega
  rcases hc with rfl | rfl | rfl | rfl | rfl | rfl <;> simp at a0 a1 a2 a3 a4 a5 <;> omega
theorem pc_0 {y : Int} (hy : 0 ≤ y ∧ y < 64) : pcN y = 0 ↔ y = 0 := by
  have := pc_t y.toNat (by omega)
  rw [show ((y.toNat : Nat) : Int) = y by omega] at this
  exact ⟨fun e => by have := this.1 e; omega, fun e => this.2 (by omega)⟩
theorem pc_b {y : Int} (h : pcN y = 0) : ∀ j, 0 ≤ j → j < 6 → bit y j = 0 := by
  intro j h1 h2
  have a0 := bit01 y 0
  have a1 := bit01 y 1
  have a2 := bit01 y 2
  have a3 := bit01 y 3
  have a4 := bit01 y 4
  have a5 := bit01 y 5
  unfold pcN at h
  have hc : j = 0 ∨ j = 1 ∨ j = 2 ∨ j = 3 ∨ j = 4 ∨ j = 5 := by omega
  rcases hc with rfl | rfl | rfl | rfl | rfl | rfl <;> omega
theorem dfL_mem {n : Nat} (hn : n ≤ 6) : ∀ (t : Nat) (y : Int), 0 ≤ y ∧ y < 64 → pcN y = t → ∀ L ∈ dfL n t y, L.length = t ∧ (∀ a ∈ L, 0 ≤ a ∧ a < (n : Int) ∧ bit y a = 1) ∧ L.Pairwise (· ≠ ·) ∧ (∀ a : Int, 0 ≤ a → a < (n : Int) → bit y a = 1 → a ∈ L) := by
  intro t
  induction t with
  | zero =>
    intro y hy hp L hL
    have e : L = [] := by
      have : L ∈ ([[]] : List (List Int)) := hL
      simpa using this
    subst e
    refine ⟨rfl, fun a ha => by simp at ha, List.Pairwise.nil, fun a h1 h2 h3 => ?_⟩
    have := pc_b (by omega) a h1 (by omega)
    omega
  | succ t ih =>
    intro y hy hp L hL
    unfold dfL at hL
    rw [List.mem_flatMap] at hL
    obtain ⟨l, hl, hL⟩ := hL
    have hln : l < n := List.mem_range.mp hl
    by_cases hb : bit y (l : Int) = 1
    · rw [if_pos hb, List.mem_map] at hL
      obtain ⟨r, hr, rfl⟩ := hL
      have hrm := rm_b (y := y) (l := l) hy (by omega)
      obtain ⟨g1, g2, g3, g4⟩ := ih (rmB y l) hrm.1 (by rw [rm_p hy (by omega) hb]; omega) r hr
      refine ⟨by simp [g1], fun a ha => ?_, List.Pairwise.cons (fun a ha e => ?_) g3, fun a h1 h2 h3 => ?_⟩
      · rcases List.mem_cons.mp ha with rfl | ha
        · exact ⟨by omega, by omega, hb⟩
        · obtain ⟨b1, b2, b3⟩ := g2 a ha
          refine ⟨b1, b2, ?_⟩
          rw [hrm.2 a b1 (by omega)] at b3
          by_cases z : a = l
          · rw [if_pos z] at b3; omega
          · rw [if_neg z] at b3; exact b3
      · obtain ⟨b1, b2, b3⟩ := g2 a ha
        rw [hrm.2 a b1 (by omega), if_pos e.symm] at b3
        omega
      · by_cases z : a = l
        · rw [z]; exact List.mem_cons_self
        · refine List.mem_cons_of_mem _ (g4 a h1 h2 ?_)
          rw [hrm.2 a h1 (by omega), if_neg z]
          exact h3
    · rw [if_neg hb] at hL
      simp at hL
theorem fnL_app {p r : List Int} {a : Int} : fnL (p ++ a :: r) p.length = a := by
  unfold fnL
  rw [Int.toNat_natCast, List.getD_eq_getElem?_getD, List.getElem?_append_right (Nat.le_refl _), Nat.sub_self]
  rfl
theorem fnL_lt {p r : List Int} {j : Int} (h1 : 0 ≤ j) (h2 : j < p.length) : fnL (p ++ r) j = fnL p j := by
  unfold fnL
  rw [List.getD_eq_getElem?_getD, List.getD_eq_getElem?_getD, List.getElem?_append_left (by omega)]
theorem fnL_get {L : List Int} {j : Int} (h1 : 0 ≤ j) (h2 : j < L.length) : fnL L j = L[j.toNat]'(by omega) := by
  unfold fnL
  rw [List.getD_eq_getElem?_getD, List.getElem?_eq_getElem (by omega)]
  rfl
theorem dfL_pm {n : Nat} (hn : n ≤ 6) {L : List Int} (hL : L ∈ dfL n n (pw (n : Int) - 1)) : L.length = n ∧ PmS n (fnL L) := by
  obtain ⟨h1, h2, h3, h4⟩ := all_t n hn
  obtain ⟨g1, g2, g3, g4⟩ := dfL_mem hn n _ ⟨h1, h2⟩ h3 L hL
  refine ⟨g1, ⟨fun j a b => ?_, fun i j a b c e => ?_⟩, fun k a b => ?_⟩
  · rw [fnL_get a (by omega)]
    have := g2 _ (List.getElem_mem (l := L) (n := j.toNat) (by omega))
    exact ⟨this.1, this.2.1⟩
  · intro h
    rw [fnL_get a (by omega), fnL_get c (by omega)] at h
    have hp := List.pairwise_iff_getElem.mp g3
    rcases Int.lt_trichotomy i j with z | z | z
    · exact absurd h (hp i.toNat j.toNat (by omega) (by omega) (by omega))
    · exact z
    · exact absurd h.symm (hp j.toNat i.toNat (by omega) (by omega) (by omega))
  · have hb := h4 k.toNat (by omega)
    rw [show ((k.toNat : Nat) : Int) = k by omega, if_pos (by omega)] at hb
    obtain ⟨i, hi, e⟩ := List.getElem_of_mem (g4 k a b hb)
    refine ⟨i, by omega, by omega, ?_⟩
    rw [fnL_get (by omega) (by omega)]
    exact e
/-! sums -/
def szF (h : Int → Int) : Nat → Int → Int
  | 0, _ => 0
  | f + 1, l => h l + szF h f (l + 1)
theorem szF_cg {g h : Int → Int} : ∀ (f : Nat) (l : Int), (∀ j, l ≤ j → j < l + f → g j = h j) → szF g f l = szF h f l
  | 0, _, _ => rfl
  | f + 1, l, e => by
    show g l + szF g f (l + 1) = h l + szF h f (l + 1)
    rw [e l (by omega) (by omega), szF_cg f (l + 1) (fun j a b => e j (by omega) (by omega))]
theorem szF_z : ∀ (f : Nat) (l : Int), szF (fun _ => 0) f l = 0
  | 0, _ => rfl
  | f + 1, l => by show 0 + szF _ f (l + 1) = 0; rw [szF_z f, Int.add_zero]
theorem szF_add (g h : Int → Int) : ∀ (f : Nat) (l : Int), szF (fun j => g j + h j) f l = szF g f l + szF h f l
  | 0, _ => rfl
  | f + 1, l => by
    show g l + h l + szF _ f (l + 1) = g l + szF g f (l + 1) + (h l + szF h f (l + 1))
    rw [szF_add g h f]
    omega
theorem szF_swap (D : Int → Int → Int) (b : Nat) (l2 : Int) : ∀ (a : Nat) (l1 : Int), szF (fun i => szF (D i) b l2) a l1 = szF (fun j => szF (fun i => D i j) a l1) b l2
  | 0, _ => (szF_z b l2).symm
  | a + 1, l1 => by
    show szF (D l1) b l2 + szF (fun i => szF (D i) b l2) a (l1 + 1) = szF (fun j => D l1 j + szF (fun i => D i j) a (l1 + 1)) b l2
    rw [szF_swap D b l2 a (l1 + 1), szF_add]
theorem szF_one (H : Int → Int) (c : Int) : ∀ (f : Nat) (l : Int), szF (fun j => if c = j then H j else 0) f l = if l ≤ c ∧ c < l + f then H c else 0
  | 0, l => by rw [if_neg (by omega)]; rfl
  | f + 1, l => by
    show (if c = l then H l else 0) + szF _ f (l + 1) = _
    rw [szF_one H c f (l + 1)]
    by_cases z : c = l
    · subst z
      rw [if_pos rfl, if_neg (by omega), if_pos (by omega), Int.add_zero]
    · rw [if_neg z, Int.zero_add]
      by_cases z2 : l + 1 ≤ c ∧ c < l + 1 + f
      · rw [if_pos z2, if_pos (by omega)]
      · rw [if_neg z2, if_neg (by omega)]
theorem szF_pm {n : Nat} {f : Int → Int} (hf : PmS n f) (H : Int → Int) : szF (fun i => H (f i)) n 0 = szF H n 0 := by
  have e1 : szF (fun i => H (f i)) n 0 = szF (fun i => szF (fun j => if f i = j then H j else 0) n 0) n 0 := szF_cg n 0 (fun i a b => by
    have := hf.1.1 i a (by omega)
    rw [szF_one H (f i) n 0, if_pos (by omega)])
  rw [e1, szF_swap]
  refine szF_cg n 0 (fun j a b => ?_)
  obtain ⟨i0, h1, h2, h3⟩ := hf.2 j a (by omega)
  have e2 : szF (fun i => if f i = j then H j else 0) n 0 = szF (fun i => if i0 = i then (fun _ => H j) i else 0) n 0 := szF_cg n 0 (fun i a b => by
    by_cases z : i0 = i
    · rw [if_pos z, if_pos (by rw [← z]; exact h3)]
    · rw [if_neg z, if_neg (fun e => z (hf.1.2 i0 i h1 h2 a (by omega) (by rw [h3, e])))])
  rw [e2, szF_one, if_pos (by omega)]
theorem unF_sm (g p : Int → Int) : ∀ (f : Nat) (l a : Int), unF g p f l a = a + szF (fun j => if g j = p j then 0 else 1) f l
  | 0, l, a => by show a = a + 0; omega
  | f + 1, l, a => by
    show unF g p f (l + 1) (if g l = p l then a else a + 1) = a + ((if g l = p l then 0 else 1) + szF _ f (l + 1))
    rw [unF_sm g p f]
    by_cases z : g l = p l
    · rw [if_pos z, if_pos z]; omega
    · rw [if_neg z, if_neg z]; omega
/-- who sits elsewhere, by seats -/
def mvS (q : Int → Int) : List Int → Int → Int
  | [], _ => 0
  | a :: r, i => (if q (12 + a) = i then 0 else 1) + mvS q r (i + 1)
def rwL (u : Int) : List Int → Int
  | [] => u
  | a :: r => rwL (10 * u + a) r
theorem mvS_snoc (q : Int → Int) (a : Int) : ∀ (p : List Int) (i : Int), mvS q (p ++ [a]) i = mvS q p i + (if q (12 + a) = i + p.length then 0 else 1)
  | [], i => by
    show (if q (12 + a) = i then 0 else 1) + 0 = 0 + (if q (12 + a) = i + ((0 : Nat) : Int) then 0 else 1)
    rw [show i + ((0 : Nat) : Int) = i by omega]
    omega
  | b :: p, i => by
    show (if q (12 + b) = i then 0 else 1) + mvS q (p ++ [a]) (i + 1) = (if q (12 + b) = i then 0 else 1) + mvS q p (i + 1) + (if q (12 + a) = i + ((p.length + 1 : Nat) : Int) then 0 else 1)
    rw [mvS_snoc q a p (i + 1), show i + 1 + (p.length : Int) = i + ((p.length + 1 : Nat) : Int) by omega]
    omega
theorem mvS_r (q : Int → Int) : ∀ (p : List Int) (i : Int), 0 ≤ mvS q p i ∧ mvS q p i ≤ p.length
  | [], i => ⟨Int.le_refl _, Int.le_refl _⟩
  | b :: p, i => by
    have := mvS_r q p (i + 1)
    show 0 ≤ (if q (12 + b) = i then 0 else 1) + mvS q p (i + 1) ∧ (if q (12 + b) = i then 0 else 1) + mvS q p (i + 1) ≤ ((p.length + 1 : Nat) : Int)
    split <;> omega
theorem rwL_app (r : List Int) : ∀ (p : List Int) (u : Int), rwL u (p ++ r) = rwL (rwL u p) r
  | [], _ => rfl
  | a :: p, u => rwL_app r p (10 * u + a)
theorem rwL_r : ∀ (r : List Int) (u : Int), (∀ a ∈ r, 0 ≤ a ∧ a ≤ 9) → u * 10 ^ r.length ≤ rwL u r ∧ rwL u r < (u + 1) * 10 ^ r.length
  | [], u, _ => by
    show u * 10 ^ 0 ≤ u ∧ u < (u + 1) * 10 ^ 0
    rw [Int.pow_zero, Int.mul_one, Int.mul_one]
    omega
  | a :: r, u, h => by
    have ha := h a List.mem_cons_self
    have ih := rwL_r r (10 * u + a) (fun b hb => h b (List.mem_cons_of_mem _ hb))
    show u * 10 ^ (r.length + 1) ≤ rwL (10 * u + a) r ∧ rwL (10 * u + a) r < (u + 1) * 10 ^ (r.length + 1)
    obtain ⟨P, hP⟩ : ∃ P : Int, P = 10 ^ r.length := ⟨_, rfl⟩
    have hP0 : 0 < P := by rw [hP]; exact Int.pow_pos (by decide)
    rw [Int.pow_succ, ← hP]
    rw [← hP] at ih
    have e1 : u * (P * 10) = (10 * u) * P := by rw [Int.mul_comm P 10, ← Int.mul_assoc, Int.mul_comm u 10]
    have e2 : (u + 1) * (P * 10) = (10 * (u + 1)) * P := by rw [Int.mul_comm P 10, ← Int.mul_assoc, Int.mul_comm (u + 1) 10]
    rw [e1, e2]
    have m1 : 10 * u * P ≤ (10 * u + a) * P := Int.mul_le_mul_of_nonneg_right (by omega) (by omega)
    have m2 : (10 * u + a + 1) * P ≤ (10 * (u + 1)) * P := Int.mul_le_mul_of_nonneg_right (by omega) (by omega)
    exact ⟨by omega, by omega⟩
theorem rowF_rw : ∀ (r p : List Int) (u : Int), rowF (fnL (p ++ r)) r.length p.length u = rwL u r
  | [], _, _ => rfl
  | a :: r, p, u => by
    show rowF (fnL (p ++ a :: r)) r.length ((p.length : Int) + 1) (10 * u + fnL (p ++ a :: r) p.length) = rwL (10 * u + a) r
    rw [fnL_app]
    have e := rowF_rw r (p ++ [a]) (10 * u + a)
    rw [List.append_assoc] at e
    have e2 : (((p ++ [a]).length : Nat) : Int) = (p.length : Int) + 1 := by simp
    rw [e2] at e
    exact e
theorem mvS_sm (q : Int → Int) : ∀ (r p : List Int), mvS q r p.length = szF (fun i => if q (12 + fnL (p ++ r) i) = i then 0 else 1) r.length p.length
  | [], _ => rfl
  | a :: r, p => by
    show (if q (12 + a) = p.length then 0 else 1) + mvS q r ((p.length : Int) + 1) = (if q (12 + fnL (p ++ a :: r) p.length) = p.length then 0 else 1) + szF (fun i => if q (12 + fnL (p ++ a :: r) i) = i then 0 else 1) r.length ((p.length : Int) + 1)
    rw [fnL_app]
    have e := mvS_sm q r (p ++ [a])
    rw [List.append_assoc] at e
    have e2 : (((p ++ [a]).length : Nat) : Int) = (p.length : Int) + 1 := by simp
    rw [e2] at e
    exact congrArg (fun z => (if q (12 + a) = (p.length : Int) then 0 else 1) + z) e
/-- moves by members are moves by seats -/
theorem un_mv {n : Nat} {L : List Int} (hl : L.length = n) (hf : PmS n (fnL L)) (q : Int → Int) : unF (ivF (fnL L) n) (fun j => q (12 + j)) n 0 0 = mvS q L 0 := by
  have e := mvS_sm q L []
  have e0 : mvS q L (([] : List Int).length : Int) = mvS q L 0 := rfl
  rw [e0] at e
  rw [e, unF_sm, Int.zero_add, hl]
  show szF (fun j => if ivF (fnL L) n j = q (12 + j) then 0 else 1) n 0 = szF (fun i => if q (12 + fnL L i) = i then 0 else 1) n 0
  rw [← szF_pm hf (fun j => if ivF (fnL L) n j = q (12 + j) then 0 else 1)]
  refine szF_cg n 0 (fun i a b => ?_)
  show (if ivF (fnL L) n (fnL L i) = q (12 + fnL L i) then (0 : Int) else 1) = _
  rw [ivF_e hf.1 a n (Int.le_refl _) (by omega)]
  by_cases z : i = q (12 + fnL L i)
  · rw [if_pos z, if_pos z.symm]
  · rw [if_neg z, if_neg (fun e => z e.symm)]
/-- an order, tried by both -/
def seR (K : Kn) (B : Int → Int) (pf : Pf) (q : Int → Int) (x : Int) (L : List Int) (s : Int × Int) : Int × Int :=
  if (s.1 = -1 ∨ mvS q L 0 < s.2) ∧ sideA K (endA K (wtB B) pf (seS q (kNm K) (fnL L)) 22) = x then (rwL 0 L, mvS q L 0) else s
def seF (K : Kn) (B : Int → Int) (pf : Pf) (q : Int → Int) (x : Int) (Ls : List (List Int)) (s : Int × Int) : Int × Int := Ls.foldl (fun s L => seR K B pf q x L s) s
theorem seO_R {K : Kn} {B q : Int → Int} {pf : Pf} {x : Int} {L : List Int} {s : Int × Int} (hK : 0 ≤ kNm K) (hl : L.length = (kNm K).toNat) (hf : PmS (kNm K) (fnL L)) (hs : s.1 = -1 ↔ s.2 = -1) : seO K B pf q x (fnL L) s = seR K B pf q x L s := by
  have hf' : PmS (((kNm K).toNat : Nat) : Int) (fnL L) := by rw [show (((kNm K).toNat : Nat) : Int) = kNm K by omega]; exact hf
  have e1 := un_mv hl hf' q
  have e2 : rowF (fnL L) (kNm K).toNat 0 0 = rwL 0 L := by
    have := rowF_rw L [] 0
    rw [hl] at this
    exact this
  unfold seO seR
  rw [e1, e2]
  by_cases z : (s.1 = -1 ∨ mvS q L 0 < s.2) ∧ sideA K (endA K (wtB B) pf (seS q (kNm K) (fnL L)) 22) = x
  · rw [if_pos z, if_pos ⟨z.1.imp (fun e => hs.mp e) id, z.2⟩]
  · rw [if_neg z, if_neg (fun e => z ⟨e.1.imp (fun e => hs.mpr e) id, e.2⟩)]
theorem seF_inv {K : Kn} {B q : Int → Int} {pf : Pf} {x : Int} : ∀ (Ls : List (List Int)) (s : Int × Int), seF K B pf q x Ls s = s ∨ ∃ L ∈ Ls, seF K B pf q x Ls s = (rwL 0 L, mvS q L 0)
  | [], s => Or.inl rfl
  | L :: Ls, s => by
    show seF K B pf q x Ls (seR K B pf q x L s) = s ∨ ∃ L' ∈ L :: Ls, seF K B pf q x Ls (seR K B pf q x L s) = (rwL 0 L', mvS q L' 0)
    have hc : seR K B pf q x L s = s ∨ seR K B pf q x L s = (rwL 0 L, mvS q L 0) := by
      unfold seR
      split
      · exact Or.inr rfl
      · exact Or.inl rfl
    rcases seF_inv (K := K) (B := B) (q := q) (pf := pf) (x := x) Ls (seR K B pf q x L s) with e | ⟨L', h1, h2⟩
    · rw [e]
      rcases hc with c | c
      · exact Or.inl c
      · exact Or.inr ⟨L, List.mem_cons_self, c⟩
    · exact Or.inr ⟨L', List.mem_cons_of_mem _ h1, h2⟩
theorem seF_app {K : Kn} {B q : Int → Int} {pf : Pf} {x : Int} (A C : List (List Int)) (s : Int × Int) : seF K B pf q x (A ++ C) s = seF K B pf q x C (seF K B pf q x A s) := List.foldl_append
