/-! ===== laws as such; what the two sides hold, all of it ===== -/
abbrev Cd : Type := List (Int × Int)
abbrev Lw : Type := List (Cd × Cd)
def bnd (v : Int) : Int := max (-1000000) (min 1000000 v)
def opv (c a b : Int) : Int := if c = 2 then bnd (a + b) else if c = 3 then bnd (a - b) else if c = 4 then bnd (a * b) else if c = 5 then (if b = 0 then 0 else bnd (Int.tdiv a b)) else if c = 6 then (if a = b then 1 else 0) else if c = 7 then (if a < b then 1 else 0) else if c = 8 then (if b < a then 1 else 0) else if c = 10 then (if a ≠ 0 ∧ b ≠ 0 then 1 else 0) else (if a ≠ 0 ∨ b ≠ 0 then 1 else 0)
/-- a row of steps over a stack -/
def evC (lt : Int → Int) : Cd → List Int → List Int
  | [], s => s
  | (c, v) :: r, s => if c = 0 then evC lt r (v :: s) else if c = 1 then evC lt r (lt v :: s) else if c = 9 then (match s with
    | a :: t => evC lt r ((1 - a) :: t)
    | [] => []) else (match s with
    | b :: a :: t => evC lt r (opv c a b :: t)
    | _ => [])
def evT (lt : Int → Int) (c : Cd) : Int := (evC lt c []).headD 0
def evL (lt : Int → Int) : Lw → Int
  | [] => 0
  | (t, s) :: r => if t = [] ∨ evT lt t ≠ 0 then evT lt s else evL lt r
def ltr (a b c e f g : Int) : Int → Int := fun j => if j = 0 then a else if j = 1 then b else if j = 2 then c else if j = 3 then e else if j = 4 then f else g
def pfL (L : Lw) : Pf := fun a b c e f g => max 0 (min 99 (evL (ltr a b c e f g) L))
/-- what kinds of numbers lie on the stack: true, what holds or not -/
def tyC : Cd → List Bool → Option (List Bool)
  | [], s => some s
  | (c, v) :: r, s => if 20 ≤ s.length then none else if c = 0 then (if 0 ≤ v ∧ v ≤ 9999 then tyC r (false :: s) else none) else if c = 1 then (if 0 ≤ v ∧ v ≤ 5 then tyC r (false :: s) else none) else if c = 9 then (match s with
    | true :: t => if v = 0 then tyC r (true :: t) else none
    | _ => none) else if 2 ≤ c ∧ c ≤ 5 then (match s with
    | false :: false :: t => if v = 0 then tyC r (false :: t) else none
    | _ => none) else if 6 ≤ c ∧ c ≤ 8 then (match s with
    | false :: false :: t => if v = 0 then tyC r (true :: t) else none
    | _ => none) else if c = 10 ∨ c = 11 then (match s with
    | true :: true :: t => if v = 0 then tyC r (true :: t) else none
    | _ => none) else none
def clsOk (c : Cd × Cd) : Prop := (c.1 = [] ∨ tyC c.1 [] = some [true]) ∧ tyC c.2 [] = some [false]
def LwOk (L : Lw) : Prop := (∀ c ∈ L, clsOk c) ∧ L.length ≤ 130 ∧ (L.map fun c => c.1.length + c.2.length).sum ≤ 500
/-- the class's steps -/
def srt (c : Int) : Int := if c = 0 then 0 else if c = 1 then 1 else if c = 9 then 4 else if c = 2 then 5 else if c = 3 then 6 else if c = 4 then 7 else if c = 5 then 8 else if c = 6 then 9 else if c = 7 then 10 else if c = 8 then 11 else if c = 10 then 12 else 13
def enc (c : Cd) : List Int := c.map fun p => 16384 * srt p.1 + p.2
def stpL : Lw → Int → List Int
  | [], _ => []
  | (t, s) :: r, o => if t = [] then enc s ++ [32768] ++ stpL r (o + s.length + 1) else enc t ++ [49152 + (o + t.length + 1 + s.length + 1)] ++ enc s ++ [32768] ++ stpL r (o + t.length + 1 + s.length + 1)
/-- a law of the class -/
def ClAt (X : Cx) (m : Mm) (v : Int) (L : Lw) : Prop := ∃ l a ln : Nat, v = (l : Int) ∧ 114 ≤ l ∧ 114 ≤ a ∧ X.2.2.1[l]? = some (.inl (4, [a + 3])) ∧ X.2.2.1[a]? = some (.inr (.inl (0, ln))) ∧ ln ≤ 241 ∧ (stpL L 0).length = ln ∧ ∀ j : Nat, j < ln → m a j = (stpL L 0).getD j 0
/-- a law of the reference: clauses from the k-th on, codes from the place o on -/
def MlCl (m : Mm) (i : Int) : Lw → Int → Int → Prop
  | [], _, _ => True
  | (t, s) :: r, k, o => m 89 (140 * i + k) = o ∧ m 90 (140 * i + k) = o + t.length ∧ m 91 (140 * i + k) = o + t.length + s.length ∧ (∀ j : Nat, j < (t ++ s).length → m 85 (520 * i + o + j) = ((t ++ s).getD j (0, 0)).1 ∧ m 86 (520 * i + o + j) = ((t ++ s).getD j (0, 0)).2) ∧ MlCl m i r (k + 1) (o + t.length + s.length)
def MlAt (m : Mm) (i : Int) (L : Lw) : Prop := m 88 i = L.length ∧ MlCl m i L 0 0
def lw (Ls : List Lw) (i : Nat) : Lw := Ls.getD i []
def curPf (Ls : List Lw) (hd : Int) : Pf := if hd < 0 then (fun a _ _ _ _ _ => a) else pfL (lw Ls hd.toNat)
def CLaw (X : Cx) (m : Mm) (Ls : List Lw) (hd : Int) : Prop := m 0 4 = Ls.length ∧ m 0 5 = hd ∧ (hd = -1 ∨ (0 ≤ hd ∧ hd < Ls.length)) ∧ m 18 1 = (if hd < 0 then -1 else m 8 hd) ∧ ∀ i : Nat, i < Ls.length → ClAt X m (m 8 i) (lw Ls i)
def MLaw (m : Mm) (Ls : List Lw) (hd : Int) : Prop := m 83 13 = Ls.length ∧ m 83 32 = hd ∧ ∀ i : Nat, i < Ls.length → MlAt m i (lw Ls i)
def LsOk (Ls : List Lw) : Prop := Ls.length ≤ 4 ∧ ∀ L ∈ Ls, LwOk L
/-- what laws give: shown apart -/
def HLaw : Prop := (∀ (X : Cx) (m : Mm) (Ls : List Lw) (hd : Int), Bsh X.2.2.1 → LsOk Ls → CLaw X m Ls hd → PC X.1 X.2.1 X.2.2.1 X.2.2.2 m (curPf Ls hd)) ∧ (∀ (X : Cx) (m : Mm) (Ls : List Lw) (hd : Int), Bsh X.2.2.1 → LsOk Ls → (hd = -1 ∨ (0 ≤ hd ∧ hd < Ls.length)) → MLaw m Ls hd → PM X.1 X.2.1 X.2.2.1 X.2.2.2 m (curPf Ls hd))
theorem curPf_ok (Ls : List Lw) (hd : Int) : Pok (curPf Ls hd) := by
  intro a b c e f g h1 h2
  unfold curPf
  split
  · dsimp only; omega
  · unfold pfL; omega
/-- the whole: tape; canton; how it is, acts, image; refusals, dogs; notes; laws -/
abbrev Ab : Type := (Int × (Int → Int)) × (Kn × (Int → Int)) × ((Int → Int) × List (Int → Int) × Option (Int → Int)) × ((Int → Int) × Int) × (Int × (Int → Int) × (Int → Int) × (Int → Int)) × (List Lw × Int)
abbrev abS (A : Ab) := A.1.1
abbrev abT (A : Ab) := A.1.2
abbrev abK (A : Ab) := A.2.1.1
abbrev abB (A : Ab) := A.2.1.2
abbrev abQ (A : Ab) := A.2.2.1.1
abbrev abL (A : Ab) := A.2.2.1.2.1
abbrev abI (A : Ab) := A.2.2.1.2.2
abbrev abR (A : Ab) := A.2.2.2.1.1
abbrev abD (A : Ab) := A.2.2.2.1.2
abbrev abN (A : Ab) := A.2.2.2.2.1.1
abbrev abNr (A : Ab) := A.2.2.2.2.1.2.1
abbrev abNc (A : Ab) := A.2.2.2.2.1.2.2.1
abbrev abNi (A : Ab) := A.2.2.2.2.1.2.2.2
abbrev abW (A : Ab) := A.2.2.2.2.2.1
abbrev abH (A : Ab) := A.2.2.2.2.2.2
abbrev abP (A : Ab) := curPf (abW A) (abH A)
/-- how it is, changed -/
abbrev setQ (A : Ab) (q : Int → Int) (AL : List (Int → Int)) (io : Option (Int → Int)) : Ab := (A.1, A.2.1, (q, AL, io), A.2.2.2)
def CIm (m : Mm) (K : Kn) (B : Int → Int) : Option (Int → Int) → Prop
  | none => m 21 1 = 0
  | some iq => m 21 1 = 1 ∧ Sr K (wtB B) (m 24) iq ∧ m 24 10 = iq 24 ∧ lrng iq ∧ ∀ i, 0 ≤ i → i < iq 24 → m 25 i = lrow iq (iq 24 - 1 - i)
def MIm (m : Mm) : Option (Int → Int) → Prop
  | none => m 83 52 = 0
  | some iq => m 83 52 = 1 ∧ ∀ j, 0 ≤ j → j < 205 → m 112 j = iq j
def CW (X : Cx) (m : Mm) (A : Ab) (t : Int) : Prop := (m 1 1 = abS A ∧ ∀ j, 0 ≤ j → j < abS A → m 2 j = abT A j) ∧
  (∃ c c2 : Nat, cO c ∧ cO c2 ∧ c ≠ c2 ∧ m 0 6 = (c : Int) ∧ m 0 7 = (c2 : Int) ∧ m 18 0 = (c : Int) ∧ Ck m c (abK A) ∧ ∀ j, 0 ≤ j → j < 4 * kNm (abK A) → m (c + 3) j = abB A j) ∧
  CLaw X m (abW A) (abH A) ∧ CR m (abK A) (abB A) (abQ A) (abL A) 0 ∧ CIm m (abK A) (abB A) (abI A) ∧ m 17 10 ≤ 400 * t ∧
  (∀ j, 0 ≤ j → j < 5 → m 82 j = abR A j) ∧ m 0 14 = abD A ∧ (m 73 0 = abN A ∧ ∀ j, 0 ≤ j → j < abN A → m 77 j = abNr A j ∧ m 78 j = abNc A j ∧ m 79 j = abNi A j)
def MW (m : Mm) (A : Ab) : Prop := (m 83 2 = abS A ∧ ∀ j, 0 ≤ j → j < abS A → m 84 j = abT A j) ∧ kM m = abK A ∧ m 100 = abB A ∧
  MLaw m (abW A) (abH A) ∧ MR m (abQ A) (abL A) ∧ MIm m (abI A) ∧
  (∀ j, 0 ≤ j → j < 5 → m 102 j = abR A j) ∧ m 83 33 = abD A ∧ (m 83 48 = abN A ∧ ∀ j, 0 ≤ j → j < abN A → m 107 j = abNr A j ∧ m 108 j = abNc A j ∧ m 109 j = abNi A j)
/-- a state within bounds -/
def qOk (K : Kn) (t : Int) (q : Int → Int) : Prop := Qok K q ∧ 0 ≤ q 23 ∧ q 23 ≤ 20 * t
def AOk (A : Ab) (t : Int) : Prop := (0 ≤ t ∧ t ≤ 1000) ∧ (0 ≤ abS A ∧ abS A ≤ 240 ∧ ∀ j, 0 ≤ j → j < abS A → 1 ≤ abT A j ∧ abT A j ≤ 255) ∧
  (0 ≤ kNm (abK A) ∧ kNm (abK A) ≤ 6) ∧ (kNm (abK A) = 0 → abL A = [] ∧ abI A = none ∧ kNb (abK A) = 0 ∧ kIc (abK A) = 0 ∧ abN A = 0 ∧ ∀ j, 18 ≤ j → j ≤ 24 → abQ A j = 0) ∧
  (0 < kNm (abK A) → Kok (abK A) ∧ Bok (abK A) (abB A) ∧ qOk (abK A) t (abQ A) ∧ (∀ a ∈ abL A, qOk (abK A) t a) ∧ (∀ a, abI A = some a → qOk (abK A) t a)) ∧
  (∀ j, 0 ≤ j → j < 5 → 0 ≤ abR A j ∧ abR A j ≤ t) ∧ (0 ≤ abD A ∧ abD A ≤ 9) ∧ ((0 ≤ abN A ∧ abN A ≤ 10) ∧ ∀ j, 0 ≤ j → j < abN A → (1 ≤ abNr A j ∧ abNr A j ≤ 20) ∧ (0 ≤ abNc A j ∧ abNc A j < kR (abK A) 0) ∧ (abNi A j = 0 ∨ abNi A j = 1)) ∧ LsOk (abW A) ∧ (abH A = -1 ∨ (0 ≤ abH A ∧ abH A < (abW A).length))
theorem qOk.up {K : Kn} {t t' : Int} {q : Int → Int} (h : qOk K t q) (ht : t ≤ t') : qOk K t' q := ⟨h.1, h.2.1, by have := h.2.2; omega⟩
theorem AOk.up {A : Ab} {t : Int} (h : AOk A t) (ht : t + 1 ≤ 1000) : AOk A (t + 1) := by
  obtain ⟨a0, a1, a2, a3, a4, a5, a6, a7, a8⟩ := h
  refine ⟨by omega, a1, a2, a3, fun hp => ?_, fun j h1 h2 => ?_, a6, a7, a8⟩
  · obtain ⟨b1, b2, b3, b4, b5⟩ := a4 hp
    exact ⟨b1, b2, b3.up (by omega), fun a ha => (b4 a ha).up (by omega), fun a ha => (b5 a ha).up (by omega)⟩
  · have := a5 j h1 h2
    omega
theorem CW.up {X : Cx} {m : Mm} {A : Ab} {t : Int} (h : CW X m A t) : CW X m A (t + 1) := by
  obtain ⟨a1, a2, a3, a4, a5, a6, a7⟩ := h
  exact ⟨a1, a2, a3, a4, a5, by omega, a7⟩
/-- the class's side changes nothing of the reference, and the other way round -/
def hiS (m m' : Mm) : Prop := ∀ a, 83 ≤ a → m' a = m a
def loS (m m' : Mm) : Prop := ∀ a, (a < 83 ∨ 113 ≤ a) → m' a = m a
theorem MlCl.cg {m m' : Mm} {i : Int} (h : ∀ a, 85 ≤ a → a ≤ 91 → m' a = m a) : ∀ (L : Lw) (k o : Int), MlCl m i L k o → MlCl m' i L k o := by
  intro L
  induction L with
  | nil => intro k o _; exact trivial
  | cons c L ih =>
    intro k o hh
    obtain ⟨t, s⟩ := c
    unfold MlCl at hh ⊢
    rw [h 89 (by omega) (by omega), h 90 (by omega) (by omega), h 91 (by omega) (by omega), h 85 (by omega) (by omega), h 86 (by omega) (by omega)]
    exact ⟨hh.1, hh.2.1, hh.2.2.1, hh.2.2.2.1, ih _ _ hh.2.2.2.2⟩
theorem MLaw.cg {m m' : Mm} {Ls : List Lw} {hd : Int} (h : MLaw m Ls hd) (h1 : m' 83 13 = m 83 13) (h2 : m' 83 32 = m 83 32) (h3 : ∀ a, 85 ≤ a → a ≤ 91 → m' a = m a) : MLaw m' Ls hd := by
  obtain ⟨a1, a2, a3⟩ := h
  refine ⟨h1.trans a1, h2.trans a2, fun i hi => ?_⟩
  have := a3 i hi
  unfold MlAt at this ⊢
  rw [h3 88 (by omega) (by omega)]
  exact ⟨this.1, MlCl.cg h3 _ _ _ this.2⟩
theorem CLaw.cg {X : Cx} {m m' : Mm} {Ls : List Lw} {hd : Int} (h : CLaw X m Ls hd) (h1 : m' 0 4 = m 0 4) (h2 : m' 0 5 = m 0 5) (h3 : m' 18 1 = m 18 1) (h4 : m' 8 = m 8) (h5 : ∀ a, 114 ≤ a → m' a = m a) : CLaw X m' Ls hd := by
  obtain ⟨a1, a2, a3, a4, a5⟩ := h
  refine ⟨h1.trans a1, h2.trans a2, a3, by rw [h3, h4]; exact a4, fun i hi => ?_⟩
  obtain ⟨l, a, ln, b1, b2, b3, b4, b5, b6, b7, b8⟩ := a5 i hi
  exact ⟨l, a, ln, by rw [h4]; exact b1, b2, b3, b4, b5, b6, b7, fun j hj => by rw [h5 a b3]; exact b8 j hj⟩
theorem MW.hi {m m' : Mm} {A : Ab} (h : MW m A) (hh : hiS m m') : MW m' A := by
  obtain ⟨a1, a2, a3, a4, a5, a6, a7, a8, a9⟩ := h
  have e83 := hh 83 (by omega)
  unfold MW
  rw [e83, hh 84 (by omega), hh 100 (by omega), hh 102 (by omega), hh 107 (by omega), hh 108 (by omega), hh 109 (by omega)]
  refine ⟨a1, ?_, a3, a4.cg (by rw [e83]) (by rw [e83]) (fun a x y => hh a (by omega)), ?_, ?_, a7, a8, a9⟩
  · unfold kM at a2 ⊢
    rw [e83, hh 98 (by omega), hh 99 (by omega)]
    exact a2
  · unfold MR at a5 ⊢
    rw [e83, hh 101 (by omega), hh 103 (by omega)]
    exact a5
  · unfold MIm at a6 ⊢
    rw [e83, hh 112 (by omega)]
    exact a6
theorem CW.lo {X : Cx} {m m' : Mm} {A : Ab} {t : Int} (h : CW X m A t) (hh : loS m m') : CW X m' A t := by
  obtain ⟨a1, ⟨c, c2, b1, b2, b3, b4, b5, b6, b7, b8⟩, a3, a4, a5, a6, a7, a8, a9⟩ := h
  have f : ∀ a, a < 83 → m' a = m a := fun a ha => hh a (Or.inl ha)
  unfold CW
  rw [f 1 (by omega), f 2 (by omega), f 0 (by omega), f 18 (by omega), f 17 (by omega), f 82 (by omega), f 73 (by omega), f 77 (by omega), f 78 (by omega), f 79 (by omega)]
  refine ⟨a1, ⟨c, c2, b1, b2, b3, b4, b5, b6, b7.fr (f _ (by omega)) (f _ (by omega)) (f _ (by omega)), fun j h1 h2 => by rw [f (c + 3) (by omega)]; exact b8 j h1 h2⟩, a3.cg (by rw [f 0 (by omega)]) (by rw [f 0 (by omega)]) (by rw [f 18 (by omega)]) (f 8 (by omega)) (fun a ha => hh a (by omega)), ?_, ?_, a6, a7, a8, a9⟩
  · unfold CR lgs at a4 ⊢
    rw [f 17 (by omega), f 21 (by omega), f 22 (by omega), f 23 (by omega)]
    obtain ⟨e1, e2, e3, e4, e5, e6, e7, e8⟩ := a4
    refine ⟨e1, e2, e3, e4, e5, e6, fun i hi => ?_, fun i j h1 h2 => ?_⟩
    · have := slot_r (m 21 4) (abL A).length i
      rw [f _ (by omega)]
      exact e7 i hi
    · have s1 := slot_r (m 21 4) (abL A).length i
      have s2 := slot_r (m 21 4) (abL A).length j
      rw [f (slotN (m 21 4) (abL A).length i) (by omega), f (slotN (m 21 4) (abL A).length j) (by omega)]
      exact e8 i j h1 h2
  · unfold CIm at a5 ⊢
    rw [f 21 (by omega), f 24 (by omega), f 25 (by omega)]
    exact a5
