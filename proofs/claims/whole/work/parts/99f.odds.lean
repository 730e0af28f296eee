/-! ===== odds: the sum and the recursion ===== -/
def smF (G : Int → Int) : Nat → Int
  | 0 => 0
  | k + 1 => smF G k + G k
theorem smF_cg {G H : Int → Int} : ∀ (k : Nat), (∀ s : Nat, s < k → G s = H s) → smF G k = smF H k
  | 0, _ => rfl
  | k + 1, h => by
    show smF G k + G k = smF H k + H k
    rw [smF_cg k (fun s hs => h s (by omega)), h k (by omega)]
theorem smF_add (G : Int → Int) (a : Nat) : ∀ b : Nat, smF G (a + b) = smF G a + smF (fun t => G (a + t)) b
  | 0 => by show smF G a = smF G a + 0; omega
  | b + 1 => by
    show smF G (a + b) + G ((a + b : Nat) : Int) = smF G a + (smF (fun t => G (a + t)) b + G (a + (b : Int)))
    rw [smF_add G a b, show ((a + b : Nat) : Int) = a + (b : Int) by omega]
    omega
theorem smF_two (G H : Int → Int) : ∀ k : Nat, smF (fun s => G s + H s) k = smF G k + smF H k
  | 0 => rfl
  | k + 1 => by
    show smF (fun s => G s + H s) k + (G k + H k) = smF G k + G k + (smF H k + H k)
    rw [smF_two G H k]
    omega
theorem smF_0 {G : Int → Int} : ∀ (k : Nat), (∀ s : Nat, s < k → G s = 0) → smF G k = 0
  | 0, _ => rfl
  | k + 1, h => by
    show smF G k + G k = 0
    rw [smF_0 k (fun s hs => h s (by omega)), h k (by omega)]
    rfl
def subE (s E : Int) : Bool := decide (iA s (iX E (-1)) = 0)
theorem subE_b {s E : Int} (hs : 0 ≤ s ∧ s < 64) (hE : 0 ≤ E ∧ E < 64) : subE s E = decide (∀ k : Nat, k < 6 → bit s k = 1 → bit E k = 1) := by
  obtain ⟨a, rfl⟩ : ∃ a : Nat, s = (a : Int) := ⟨s.toNat, by omega⟩
  obtain ⟨b, rfl⟩ : ∃ b : Nat, E = (b : Int) := ⟨E.toNat, by omega⟩
  exact (by decide +kernel : ∀ a : Nat, a < 64 → ∀ b : Nat, b < 64 → subE (a : Int) (b : Int) = decide (∀ k : Nat, k < 6 → bit (a : Int) k = 1 → bit (b : Int) k = 1)) a (by omega) b (by omega)
theorem subE_le {s E : Int} (hs : 0 ≤ s ∧ s < 64) (hE : 0 ≤ E ∧ E < 64) (h : E < s) : subE s E = false := by
  obtain ⟨a, rfl⟩ : ∃ a : Nat, s = (a : Int) := ⟨s.toNat, by omega⟩
  obtain ⟨b, rfl⟩ : ∃ b : Nat, E = (b : Int) := ⟨E.toNat, by omega⟩
  exact (by decide +kernel : ∀ a : Nat, a < 64 → ∀ b : Nat, b < 64 → b < a → subE (a : Int) (b : Int) = false) a (by omega) b (by omega) (by omega)
theorem bit_hi {j s : Nat} (hj : j < 6) (hs : s < 2 ^ j) : bit (s : Int) j = 0 ∧ bit ((2 ^ j + s : Nat) : Int) j = 1 ∧ ∀ k : Nat, k < 6 → k ≠ j → bit ((2 ^ j + s : Nat) : Int) k = bit (s : Int) k := by
  exact (by decide +kernel : ∀ j : Nat, j < 6 → ∀ s : Nat, s < 2 ^ j → bit (s : Int) j = 0 ∧ bit ((2 ^ j + s : Nat) : Int) j = 1 ∧ ∀ k : Nat, k < 6 → k ≠ j → bit ((2 ^ j + s : Nat) : Int) k = bit (s : Int) k) j hj s hs
theorem sub_hi {j s : Nat} {E : Int} (hj : j < 6) (hs : s < 2 ^ j) (hE : 0 ≤ E ∧ E < 64) : subE ((2 ^ j + s : Nat) : Int) E = (subE (s : Int) E && decide (bit E j = 1)) := by
  have h64 : 2 ^ j ≤ 32 := (by decide : ∀ j : Nat, j < 6 → 2 ^ j ≤ 32) j hj
  obtain ⟨b0, b1, b2⟩ := bit_hi hj hs
  rw [subE_b (by omega) hE, subE_b (by omega) hE]
  by_cases z : bit E j = 1
  · rw [decide_eq_true z, Bool.and_true]
    congr 1
    apply propext
    refine ⟨fun h k hk e => ?_, fun h k hk e => ?_⟩
    · by_cases zk : k = j
      · rw [zk]; exact z
      · exact h k hk (by rw [b2 k hk zk]; exact e)
    · by_cases zk : k = j
      · rw [zk]; exact z
      · rw [b2 k hk zk] at e; exact h k hk e
  · rw [decide_eq_false z, Bool.and_false]
    exact decide_eq_false (fun h => z (h j hj b1))
/-- the parts -/
def dvP (y u : Int) : Int := jDv (u * y) 100
def ptF (y E : Int) : Nat → Int → Int
  | 0, _ => 1000000000
  | j + 1, s => if bit E j = 1 then (if bit s j = 1 then dvP y (ptF y E j s) else ptF y E j s - dvP y (ptF y E j s)) else ptF y E j s
theorem ptF_cg {y E s s' : Int} : ∀ (j : Nat), (∀ k : Nat, k < j → bit s k = bit s' k) → ptF y E j s = ptF y E j s'
  | 0, _ => rfl
  | j + 1, h => by
    show (if bit E j = 1 then (if bit s j = 1 then dvP y (ptF y E j s) else ptF y E j s - dvP y (ptF y E j s)) else ptF y E j s) = (if bit E j = 1 then (if bit s' j = 1 then dvP y (ptF y E j s') else ptF y E j s' - dvP y (ptF y E j s')) else ptF y E j s')
    rw [ptF_cg j (fun k hk => h k (by omega)), h j (by omega)]
def odR (y E : Int) (G : Int → Int → Int) : Nat → Nat → Int → Int → Int
  | 0, _, u, s => G s u
  | f + 1, j, u, s => if bit E j = 1 then odR y E G f (j + 1) (u - dvP y u) s + odR y E G f (j + 1) (dvP y u) (((2 ^ j : Nat) : Int) + s) else odR y E G f (j + 1) u s
theorem od_step {y E : Int} {G : Int → Int → Int} (hE : 0 ≤ E ∧ E < 64) {f j : Nat} (hj : j < 6) : smF (fun s => if subE s E = true then odR y E G (f + 1) j (ptF y E j s) s else 0) (2 ^ j) = smF (fun s => if subE s E = true then odR y E G f (j + 1) (ptF y E (j + 1) s) s else 0) (2 ^ (j + 1)) := by
  rw [show 2 ^ (j + 1) = 2 ^ j + 2 ^ j by omega, smF_add, ← smF_two]
  refine smF_cg _ (fun s hs => ?_)
  obtain ⟨b0, b1, b2⟩ := bit_hi hj hs
  have e2 : ((2 ^ j + s : Nat) : Int) = ((2 ^ j : Nat) : Int) + (s : Int) := by omega
  have sh := sub_hi hj hs hE
  rw [e2] at sh b1 b2
  have p1 : ptF y E j (((2 ^ j : Nat) : Int) + (s : Int)) = ptF y E j s := ptF_cg j (fun k hk => b2 k (by omega) (by omega))
  have q0 : ptF y E (j + 1) (s : Int) = if bit E j = 1 then ptF y E j s - dvP y (ptF y E j s) else ptF y E j s := by
    show (if bit E j = 1 then (if bit (s : Int) j = 1 then _ else _) else _) = _
    rw [if_neg (c := bit (s : Int) j = 1) (by rw [b0]; decide)]
  have q1 : ptF y E (j + 1) (((2 ^ j : Nat) : Int) + (s : Int)) = if bit E j = 1 then dvP y (ptF y E j s) else ptF y E j s := by
    show (if bit E j = 1 then (if bit (((2 ^ j : Nat) : Int) + (s : Int)) j = 1 then _ else _) else _) = _
    rw [if_pos (c := bit (((2 ^ j : Nat) : Int) + (s : Int)) j = 1) b1, p1]
  rw [q0, q1, sh]
  have eo : odR y E G (f + 1) j (ptF y E j s) s = if bit E j = 1 then odR y E G f (j + 1) (ptF y E j s - dvP y (ptF y E j s)) s + odR y E G f (j + 1) (dvP y (ptF y E j s)) (((2 ^ j : Nat) : Int) + s) else odR y E G f (j + 1) (ptF y E j s) s := rfl
  rw [eo]
  by_cases z : bit E j = 1
  · rw [if_pos z, if_pos z, if_pos z, decide_eq_true z, Bool.and_true]
    by_cases z2 : subE s E = true
    · rw [if_pos z2, if_pos z2, if_pos z2]
    · rw [if_neg z2, if_neg z2, if_neg z2]
      rfl
  · rw [if_neg z, if_neg z, if_neg z, decide_eq_false z, Bool.and_false]
    rw [if_neg (c := false = true) (by decide)]
    omega
theorem od_all {y E : Int} {G : Int → Int → Int} (hE : 0 ≤ E ∧ E < 64) : ∀ (f j : Nat), j + f ≤ 6 → smF (fun s => if subE s E = true then odR y E G f j (ptF y E j s) s else 0) (2 ^ j) = smF (fun s => if subE s E = true then G s (ptF y E (j + f) s) else 0) (2 ^ (j + f))
  | 0, j, _ => rfl
  | f + 1, j, h => by
    rw [od_step hE (by omega), od_all hE f (j + 1) (by omega), show j + 1 + f = j + (f + 1) by omega]
/-- the reference's recursion is the class's sum -/
theorem od_main {y E : Int} {G : Int → Int → Int} {n : Nat} (hn : n ≤ 6) (hE : 0 ≤ E ∧ E < 2 ^ n) : odR y E G n 0 1000000000 0 = smF (fun s => if subE s E = true then G s (ptF y E n s) else 0) (E + 1).toNat := by
  have h64 : (2 : Int) ^ n ≤ 64 := (by decide : ∀ n : Nat, n ≤ 6 → (2 : Int) ^ n ≤ 64) n hn
  have hp : (2 : Int) ^ n = ((2 ^ n : Nat) : Int) := by simp
  have h := od_all (y := y) (G := G) (E := E) ⟨hE.1, by omega⟩ n 0 (by omega)
  rw [Nat.zero_add] at h
  have e0 : smF (fun s => if subE s E = true then odR y E G n 0 (ptF y E 0 s) s else 0) (2 ^ 0) = odR y E G n 0 1000000000 0 := by
    show 0 + (if subE ((0 : Nat) : Int) E = true then odR y E G n 0 1000000000 ((0 : Nat) : Int) else 0) = _
    rw [if_pos, Int.zero_add]
    · rfl
    · rw [subE_b (by omega) (by omega)]
      refine decide_eq_true (fun k hk e => ?_)
      exact absurd e ((by decide +kernel : ∀ k : Nat, k < 6 → ¬ bit ((0 : Nat) : Int) k = 1) k hk)
  rw [e0] at h
  rw [h, show 2 ^ n = (E + 1).toNat + (2 ^ n - (E + 1).toNat) by omega, smF_add, smF_0 (G := fun t => _) (2 ^ n - (E + 1).toNat) (fun t ht => ?_)]
  · omega
  · show (if subE (((E + 1).toNat : Int) + (t : Int)) E = true then _ else 0) = (0 : Int)
    rw [if_neg (by rw [subE_le (by omega) (by omega) (by omega)]; decide)]
