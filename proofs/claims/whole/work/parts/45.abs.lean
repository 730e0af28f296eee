/-! ===== the pure picture: how the sledge goes ===== -/
/-- a canton: rules, bumps, how many bumps, how many members, ice -/
abbrev Kn : Type := (Int → Int) × (Int → Int) × Int × Int × Int
abbrev kR (K : Kn) := K.1
abbrev kB (K : Kn) := K.2.1
abbrev kNb (K : Kn) := K.2.2.1
abbrev kNm (K : Kn) := K.2.2.2.1
abbrev kIc (K : Kn) := K.2.2.2.2
abbrev Pf : Type := Int → Int → Int → Int → Int → Int → Int
def cnt (x : Int) : Int := bit x 0 + bit x 1 + bit x 2 + bit x 3 + bit x 4 + bit x 5
def pushA (nm : Int) (wt : Int → Int) (pf : Pf) (q : Int → Int) (k : Int) : Int := pf (wt k) (q (6 + k)) (q (12 + k)) (nm - cnt (q 18)) (q 21) (q 22)
def sumTo (nm : Int) (wt : Int → Int) (pf : Pf) (q : Int → Int) : Nat → Int
  | 0 => 0
  | k + 1 => sumTo nm wt pf q k + (if bit (q 18) k = 0 then (q k - 1) * pushA nm wt pf q k else 0)
def sumA (K : Kn) (wt : Int → Int) (pf : Pf) (q : Int → Int) : Int := if bit (kIc K) (q 21) = 1 then 2 * sumTo (kNm K) wt pf q (kNm K).toNat else sumTo (kNm K) wt pf q (kNm K).toNat
def asideA (wd col by' : Int) : Int := if 0 ≤ col + by' ∧ col + by' ≤ wd - 1 then col + by' else col
def bumpFrom (B : Int → Int) (row col : Int) : Nat → Int → Int
  | 0, _ => -1
  | f + 1, b => if B (4 * b) = row ∧ B (4 * b + 1) = col then b else bumpFrom B row col f (b + 1)
def bumpA (K : Kn) (row col : Int) : Int := bumpFrom (kB K) row col (kNb K).toNat 0
def fellTo (q : Int → Int) (kick : Int) : Nat → Int
  | 0 => 0
  | k + 1 => fellTo q kick k + (if bit (q 18) k = 0 ∧ q (6 + k) < kick then 2 ^ k else 0)
def colA1 (K : Kn) (wt : Int → Int) (pf : Pf) (q : Int → Int) : Int := asideA (kR K 0) (q 22) (if kR K 2 ≤ sumA K wt pf q then 1 else if sumA K wt pf q ≤ -(kR K 2) then -1 else 0)
def bumpQ (K : Kn) (wt : Int → Int) (pf : Pf) (q : Int → Int) : Int := bumpA K (q 21 + 1) (colA1 K wt pf q)
def fellA (K : Kn) (wt : Int → Int) (pf : Pf) (q : Int → Int) : Int := if bumpQ K wt pf q ≠ -1 ∧ bit (q 19) (bumpQ K wt pf q) = 0 then fellTo q (kB K (4 * bumpQ K wt pf q + 2)) (kNm K).toNat else 0
def colA2 (K : Kn) (wt : Int → Int) (pf : Pf) (q : Int → Int) : Int := if bumpQ K wt pf q ≠ -1 ∧ bit (q 19) (bumpQ K wt pf q) = 0 then asideA (kR K 0) (colA1 K wt pf q) (if kB K (4 * bumpQ K wt pf q + 3) = 1 then 1 else -1) else colA1 K wt pf q
def slideA (K : Kn) (wt : Int → Int) (pf : Pf) (q : Int → Int) : Int → Int := fun j => if j = 18 then q 18 + fellA K wt pf q else if j = 21 then q 21 + 1 else if j = 22 then colA2 K wt pf q else q j
def slidesA (K : Kn) (wt : Int → Int) (pf : Pf) : Nat → (Int → Int) → Int → Int
  | 0, q => q
  | f + 1, q => slidesA K wt pf f (slideA K wt pf q)
/-- down to the church -/
def endA (K : Kn) (wt : Int → Int) (pf : Pf) (q : Int → Int) : Int → Int := slidesA K wt pf (kR K 3 - q 21).toNat q
def sideA (K : Kn) (c : Int) : Int := if c < kR K 0 / 2 then 0 else if (kR K 0 - 1) / 2 < c then 2 else 1
def pw (k : Int) : Int := 2 ^ k.toNat
/-- what holds of a canton -/
def Kok (K : Kn) : Prop := (1 ≤ kNm K ∧ kNm K ≤ 6) ∧ (0 ≤ kNb K ∧ kNb K ≤ 6) ∧ (3 ≤ kR K 0 ∧ kR K 0 ≤ 9) ∧ (0 ≤ kR K 1 ∧ kR K 1 < kR K 0) ∧ (1 ≤ kR K 2 ∧ kR K 2 ≤ 60) ∧ (1 ≤ kR K 3 ∧ kR K 3 ≤ 20) ∧ (0 ≤ kR K 4 ∧ kR K 4 ≤ 9) ∧ (0 ≤ kIc K ∧ kIc K < 1048576) ∧
  ∀ b, 0 ≤ b → b < kNb K → (1 ≤ kB K (4 * b) ∧ kB K (4 * b) ≤ 20) ∧ (0 ≤ kB K (4 * b + 1) ∧ kB K (4 * b + 1) < kR K 0) ∧ (1 ≤ kB K (4 * b + 2) ∧ kB K (4 * b + 2) ≤ 9) ∧ (0 ≤ kB K (4 * b + 3) ∧ kB K (4 * b + 3) ≤ 1)
/-- what holds of how it is -/
def Qok (K : Kn) (q : Int → Int) : Prop := (∀ k, 0 ≤ k → k < kNm K → (0 ≤ q k ∧ q k ≤ 2) ∧ (0 ≤ q (6 + k) ∧ q (6 + k) ≤ 9) ∧ (0 ≤ q (12 + k) ∧ q (12 + k) < kNm K)) ∧ (0 ≤ q 18 ∧ q 18 < pw (kNm K)) ∧ (0 ≤ q 19 ∧ q 19 < 64) ∧ (0 ≤ q 20 ∧ q 20 ≤ 9) ∧ (0 ≤ q 21 ∧ q 21 ≤ kR K 3) ∧ (0 ≤ q 22 ∧ q 22 < kR K 0)
def Wok (K : Kn) (wt : Int → Int) : Prop := ∀ k, 0 ≤ k → k < kNm K → 1 ≤ wt k ∧ wt k ≤ 9
def Pok (pf : Pf) : Prop := ∀ a b c e f g, 1 ≤ a → a ≤ 9 → 0 ≤ pf a b c e f g ∧ pf a b c e f g ≤ 99
/-! sets of members -/
theorem pw_le {n : Int} (h : 1 ≤ n ∧ n ≤ 6) : pw n ≤ 64 ∧ 2 ≤ pw n := by
  obtain ⟨k, rfl⟩ : ∃ k : Nat, n = (k : Int) := ⟨n.toNat, by omega⟩
  have hk : k ≤ 6 := by omega
  have h1 : 1 ≤ k := by omega
  exact (by decide +kernel : ∀ k : Nat, k ≤ 6 → 1 ≤ k → pw (k : Int) ≤ 64 ∧ 2 ≤ pw (k : Int)) k hk h1
theorem or_add {a b : Int} (ha : 0 ≤ a ∧ a < 64) (hb : 0 ≤ b ∧ b < 64) (h : ∀ k : Nat, k < 6 → bit b k = 1 → bit a k = 0) : iO a b = a + b := by
  obtain ⟨x, rfl⟩ : ∃ k : Nat, a = (k : Int) := ⟨a.toNat, by omega⟩
  obtain ⟨y, rfl⟩ : ∃ k : Nat, b = (k : Int) := ⟨b.toNat, by omega⟩
  have key : ∀ x : Nat, x < 64 → ∀ y : Nat, y < 64 → (x &&& y = 0) → iO (x : Int) (y : Int) = ((x + y : Nat) : Int) := by decide +kernel
  have bt0 : ∀ x : Nat, x < 64 → ∀ k : Nat, k < 6 → (bit (x : Int) k = 1 ↔ x.testBit k = true) := by decide +kernel
  have h2 : x &&& y = 0 := by
    apply Nat.eq_of_testBit_eq
    intro k
    rw [Nat.testBit_and, Nat.zero_testBit]
    by_cases hk : k < 6
    · cases hy : y.testBit k with
      | false => simp
      | true =>
        have h3 := h k hk ((bt0 y (by omega) k hk).mpr hy)
        cases hx : x.testBit k with
        | false => simp
        | true =>
          have := (bt0 x (by omega) k hk).mpr hx
          omega
    · have : x.testBit k = false := Nat.testBit_lt_two_pow (Nat.lt_of_lt_of_le (show x < 2 ^ 6 by omega) (Nat.pow_le_pow_right (by decide) (by omega)))
      rw [this]
      rfl
  rw [key x (by omega) y (by omega) h2]
  omega
/-- a set out of what holds of each -/
def setOf (p : Nat → Bool) : Nat → Int
  | 0 => 0
  | k + 1 => setOf p k + (if p k then 2 ^ k else 0)
theorem setOf_le (p : Nat → Bool) (n : Nat) : 0 ≤ setOf p n ∧ setOf p n < 2 ^ n := by
  induction n with
  | zero => exact ⟨Int.le_refl _, by show (0 : Int) < 1; omega⟩
  | succ n ih =>
    have e : (2 : Int) ^ (n + 1) = 2 * 2 ^ n := by rw [Int.pow_succ]; omega
    unfold setOf
    split <;> omega
theorem setOf_bit (p : Nat → Bool) (n k : Nat) (hn : n ≤ 6) (hk : k < 6) : bit (setOf p n) k = if k < n ∧ p k = true then 1 else 0 := by
  have key : ∀ p0 p1 p2 p3 p4 p5 : Bool, ∀ n : Nat, n ≤ 6 → ∀ k : Nat, k < 6 → bit (setOf (fun i => [p0, p1, p2, p3, p4, p5].getD i false) n) k = if k < n ∧ [p0, p1, p2, p3, p4, p5].getD k false = true then 1 else 0 := by decide +kernel
  have e : ∀ j, j ≤ 6 → setOf p j = setOf (fun i => [p 0, p 1, p 2, p 3, p 4, p 5].getD i false) j := by
    intro j
    induction j with
    | zero => intro _; rfl
    | succ j ih =>
      intro hj
      unfold setOf
      rw [ih (by omega)]
      congr 1
      match j, hj with
      | 0, _ => rfl
      | 1, _ => rfl
      | 2, _ => rfl
      | 3, _ => rfl
      | 4, _ => rfl
      | 5, _ => rfl
  rw [e n hn, key (p 0) (p 1) (p 2) (p 3) (p 4) (p 5) n hn k hk]
  match k, hk with
  | 0, _ => rfl
  | 1, _ => rfl
  | 2, _ => rfl
  | 3, _ => rfl
  | 4, _ => rfl
  | 5, _ => rfl
theorem fellTo_set (q : Int → Int) (kick : Int) (n : Nat) : fellTo q kick n = setOf (fun k => decide (bit (q 18) k = 0 ∧ q (6 + k) < kick)) n := by
  induction n with
  | zero => rfl
  | succ n ih =>
    unfold fellTo setOf
    rw [ih]
    simp only [decide_eq_true_eq]
